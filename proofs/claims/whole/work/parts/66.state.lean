/-! ===== what the answers are made of ===== -/
abbrev Gr : Type := Nat → Nat → Bool
/-- u goes OUT: those beside it become JOINED -/
def el (g : Gr) (u : Nat) : Gr := fun x y => !decide (x = u) && !decide (y = u) && !decide (x = y) && (g x y || (g u x && g u y))
def elL (g : Gr) : List Nat → Gr
  | [] => g
  | u :: l => elL (el g u) l
/-- the net when the first i of the ORDER are OUT -/
def Gi (n : Nat) (a : Nat → Nat → Nat) (od : Nat → Nat) (i : Nat) : Gr := elL (adj n a) ((List.range i).map od)
/-- the reference's rows: nobody is taken off them -/
def ml (g : Gr) (nb : Nat → Bool) : Gr := fun x y => g x y || (nb x && nb y && !decide (x = y))
def mlL (g : Gr) (out : List Nat) : List Nat → Gr
  | [] => g
  | u :: l => mlL (ml g (fun w => g u w && !decide (w = u) && !decide (w ∈ out))) (out ++ [u]) l
/-- how many FILLS it has if u goes OUT -/
def ms (g : Gr) (u : Nat) : Nat := fb_sm (fun w => if g u w then ct (fun y => g u y && !g w y && !decide (y = w)) else 0) 24 / 2
def fl (g : Gr) (n u : Nat) : List Nat := (List.range n).flatMap (fun a => ((List.range n).filter (fun b => decide (a < b) && g u a && g u b && !g a b)).map (fun b => 32 * a + b))
/-- all FILLS of the ORDER, in their order -/
def FL (n : Nat) (a : Nat → Nat → Nat) (od : Nat → Nat) : List Nat := (List.range n).flatMap (fun i => fl (Gi n a od i) n (od i))
/-- BEHIND: by the UNKNOWN (its place is pl u) -/
def bh (n : Nat) (a : Nat → Nat → Nat) (od pl : Nat → Nat) (u : Nat) : Nat → Bool := Gi n a od (pl u) u
def wide (n : Nat) (a : Nat → Nat → Nat) (od : Nat → Nat) : Nat → Nat
  | 0 => 0
  | i + 1 => max (wide n a od i) (ct (Gi n a od i (od i)))
/-- the PARENT's place, n: none -/
def par (n : Nat) (a : Nat → Nat → Nat) (od : Nat → Nat) (i : Nat) : Nat := fa_first (fun j => Gi n a od i (od i) (od j)) n
/-- the list of ints l stands in cell c -/
def Held (I : jM) (c : Nat) (l : List Nat) : Prop := ∀ k, k < l.length → I c k = nI (l.getD k 0)
/-! WORK -/
def iv (p d : Nat) : Nat := if d = 0 then 0 else d ^ (p - 2) % p
def Bk (p : Nat) (b : Nat → Nat → Nat) : Nat → Nat → Nat → Nat
  | 0, i, j => b i j
  | k + 1, i, j => (((Bk p b k i j : Int) - (Bk p b k i k * (Bk p b k j k * iv p (Bk p b k k k) % p) : Nat)) % (p : Int)).toNat
def on1 (p : Nat) (b : Nat → Nat → Nat) (i k : Nat) : Nat := Bk p b k i k * iv p (Bk p b k k k) % p
def stk (p : Nat) (b : Nat → Nat → Nat) (n k : Nat) : Bool := decide (Bk p b k k k = 0) && (List.range n).any (fun i => decide (k < i) && !decide (Bk p b k i k = 0))
def wkd (p : Nat) (b : Nat → Nat → Nat) (n : Nat) : Nat := fa_first (stk p b n) n
/-! LEAST -/
def bitsD (n m : Nat) : List Nat := (List.range n).reverse.filter (fun u => m.testBit u)
def Hm (n : Nat) (a : Nat → Nat → Nat) (m : Nat) : Gr := elL (adj n a) (bitsD n m)
def mnn (q : Nat → Bool) (v : Nat → Nat) : Nat → Nat
  | 0 => 576
  | k + 1 => if q k then min (mnn q v k) (v k) else mnn q v k
/-- least of (cost of u at m) joined with the rest's least; f: how many may still go -/
def lsF (n : Nat) (cost : Nat → Nat → Nat) (jo : Nat → Nat → Nat) : Nat → Nat → Nat
  | 0, _ => 0
  | f + 1, m => if m = 2 ^ n - 1 then 0 else mnn (fun u => !m.testBit u) (fun u => jo (cost m u) (lsF n cost jo f (m ||| 2 ^ u))) n
def lsB (n : Nat) (a : Nat → Nat → Nat) (m : Nat) : Nat := lsF n (fun m u => ct (Hm n a m u)) (· + ·) n m
def lsW (n : Nat) (a : Nat → Nat → Nat) (m : Nat) : Nat := lsF n (fun m u => ct (Hm n a m u)) max n m
def lsL (n : Nat) (a : Nat → Nat → Nat) (m : Nat) : Nat := lsF n (fun m u => ms (Hm n a m) u) (· + ·) n m
/-! ===== THE CLASS'S SIDE ===== -/
def XT (n p : Nat) (a : Nat → Nat → Nat) (hd : Nat → Bool) (sd : Nat → Nat) (I : jM) : Prop :=
  I 1 4 = nI n ∧ I 2 0 = nI p ∧ (∀ u w, u < n → w < n → I (4 + u) w = nI (a u w)) ∧ (∀ u, u < n → I 28 u = mk (adj n a u)) ∧ I 1 5 = mk (fun u => decide (u < n) && hd u) ∧ ∀ u, u < n → I 29 u = nI (sd u)
def XR (n : Nat) (od pl : Nat → Nat) (I : jM) : Prop := I 30 2 = nI n ∧ ∀ i, i < n → I 31 i = nI (od i) ∧ I 32 i = nI (pl i)
def XF (n : Nat) (a : Nat → Nat → Nat) (od pl : Nat → Nat) (I : jM) : Prop :=
  I 0 9 = 0 ∨ (I 0 9 = 1 ∧ Held I 58 (FL n a od) ∧ I 55 7 = nI (FL n a od).length ∧ I 55 9 = nI (wide n a od n) ∧ (∀ i, i < n → I 59 (od i) = mk (Gi n a od i (od i)))
    ∧ (∀ i, i < n → (par n a od i < n → I 60 (od i) = nI (od (par n a od i)) ∧ I 61 (od i) = I 61 (od (par n a od i)) + 1) ∧ (¬ par n a od i < n → I 60 (od i) = -9 ∧ I 61 (od i) = 0))
    ∧ (∀ i, i < n → I 62 (od i) = mk (fun u => decide (u < n) && decide (par n a od (pl u) = i)))
    ∧ ∃ gs : List Nat, Held I 63 gs ∧ I 55 8 = nI gs.length ∧ gs.Pairwise (· < ·) ∧ ∀ m, m ∈ gs ↔ ∃ i, i < n ∧ m = mkN (fun w => Gi n a od i (od i) w || decide (w = od i)) 24 ∧ ∀ j, j < n → j ≠ i → ∃ w, w < n ∧ (Gi n a od i (od i) w || decide (w = od i)) = true ∧ (Gi n a od j (od j) w || decide (w = od j)) = false)
def XL (n : Nat) (a : Nat → Nat → Nat) (I : jM) : Prop :=
  I 0 10 = 0 ∨ (I 0 10 = 1 ∧ n ≤ 12 ∧ ∀ m, m < 2 ^ n → I 37 m = nI (lsB n a m) ∧ I 38 m = nI (lsW n a m))
def XG (n : Nat) (a : Nat → Nat → Nat) (gn : List Nat) (I : jM) : Prop :=
  I 64 2 = nI gn.length ∧ Held I 67 gn ∧ I 65 2 = nI n ∧ I 65 1 = mk (fun u => decide (u < n) && !decide (u ∈ gn)) ∧ ∀ u, u < n → u ∉ gn → I 66 u = mk (elL (adj n a) gn u)
def XW (n p : Nat) (a : Nat → Nat → Nat) (od : Nat → Nat) (wd : Bool) (I : jM) : Prop :=
  if wd = true then ∃ w b, b = (fun i j => a (od i) (od j)) ∧ w = wkd p b n ∧ I 68 4 = nI w ∧ I 68 5 = (if w < n then nI w else -1) ∧ ∀ k, k < w → I 94 k = nI (Bk p b k k k) ∧ I 95 k = nI (iv p (Bk p b k k k)) ∧ ∀ i, k < i → i < n → I (70 + i) k = nI (on1 p b i k)
  else I 68 4 = 0 ∧ I 68 5 = -1
/-! ===== THE REFERENCE'S SIDE ===== -/
def MT (n p : Nat) (a : Nat → Nat → Nat) (hd : Nat → Bool) (sd : Nat → Nat) (I : jM) : Prop :=
  I 100 0 = nI n ∧ I 100 1 = nI p ∧ (∀ u w, u < n → w < n → I 101 (24 * u + w) = nI (a u w)) ∧ (∀ u, u < n → I 102 u = if hd u then 1 else 0) ∧ ∀ u, u < n → I 104 u = nI (sd u)
def MR (n : Nat) (od : Nat → Nat) (I : jM) : Prop := ∀ i, i < n → I 103 i = nI (od i)
def MG (n : Nat) (a : Nat → Nat → Nat) (gn : List Nat) (I : jM) : Prop :=
  I 100 15 = nI gn.length ∧ Held I 111 gn ∧ (∀ u, u < n → I 113 u = mk (mlL (adj n a) [] gn u)) ∧ ∀ k, k < gn.length → ∀ u, u < n → I 112 (24 * k + u) = mk (mlL (adj n a) [] (gn.take k) u)
def MW (n p : Nat) (a : Nat → Nat → Nat) (od : Nat → Nat) (wd : Bool) (I : jM) : Prop :=
  if wd = true then ∃ w b, b = (fun i j => a (od i) (od j)) ∧ w = wkd p b n ∧ I 100 18 = nI w ∧ I 100 19 = (if w < n then nI (od w) else -9) ∧ ∀ k, k < w → I 114 (od k) = nI (Bk p b k k k) ∧ ∀ i, k < i → i < n → I 115 (24 * od i + od k) = nI (on1 p b i k)
  else I 100 18 = 0 ∧ I 100 19 = -9
def ML (n : Nat) (a : Nat → Nat → Nat) (I : jM) : Prop :=
  I 100 13 = -1 ∨ (n ≤ 12 ∧ ((I 100 13 = 1 ∧ ∀ m, m < 2 ^ n → I 110 m = nI (lsL n a m)) ∨ (I 100 13 = 0 ∧ ∀ m, m < 2 ^ n → I 110 m = nI (lsW n a m))))
/-! ===== WHAT IS TRUE OF THE STATE ITSELF ===== -/
def isP (p : Nat) : Prop := 2 ≤ p ∧ ∀ d, 2 ≤ d → d * d ≤ p → p % d ≠ 0
def OKs (n p : Nat) (a : Nat → Nat → Nat) (od pl sd : Nat → Nat) (gn : List Nat) : Prop :=
  1 ≤ n ∧ n ≤ 24 ∧ p ≤ 32749 ∧ isP p ∧ (∀ u w, u < n → w < n → a u w < p ∧ a u w = a w u) ∧ (∀ i, i < n → od i < n ∧ pl (od i) = i ∧ pl i < n ∧ od (pl i) = i) ∧ (∀ u, u < n → sd u < p) ∧ gn.Nodup ∧ ∀ u ∈ gn, u < n
/-- the two memories agree -/
def RR (IX IM : jM) : Prop := ∃ (n p : Nat) (a : Nat → Nat → Nat) (hd : Nat → Bool) (od pl sd : Nat → Nat) (gn : List Nat) (wd : Bool), OKs n p a od pl sd gn
  ∧ XT n p a hd sd IX ∧ XR n od pl IX ∧ XF n a od pl IX ∧ XL n a IX ∧ XG n a gn IX ∧ XW n p a od wd IX
  ∧ MT n p a hd sd IM ∧ MR n od IM ∧ MG n a gn IM ∧ MW n p a od wd IM ∧ ML n a IM
  ∧ ∀ k, 1 ≤ k → k ≤ 6 → IX 99 k = IM 105 k
