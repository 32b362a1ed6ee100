/-! ===== solve, inside ===== -/
def fwI (p : Nat) (b : Nat → Nat → Nat) (g : Nat → Nat) (i : Nat) : Nat → Nat
  | 0 => g i
  | k + 1 => md p ((fwI p b g i k : Int) - ((on1 p b i k * g k : Nat) : Int))
def fwS (p : Nat) (b : Nat → Nat → Nat) (s : Nat → Nat) : Nat → Nat → Nat
  | 0 => s
  | i + 1 => fun j => if j = i then fwI p b (fwS p b s i) i i else fwS p b s i j
def bkI (p : Nat) (b : Nat → Nat → Nat) (g : Nat → Nat) (i v : Nat) : Nat → Nat
  | 0 => v
  | m + 1 => md p ((bkI p b g i v m : Int) - ((on1 p b (i + 1 + m) i * g (i + 1 + m) : Nat) : Int))
def bkS (p : Nat) (b : Nat → Nat → Nat) (n : Nat) (g : Nat → Nat) : Nat → Nat → Nat
  | 0 => g
  | t + 1 => fun j => if j = n - 1 - t then bkI p b (bkS p b n g t) (n - 1 - t) (g (n - 1 - t) * iv p (Bk p b (n - 1 - t) (n - 1 - t) (n - 1 - t)) % p) t else bkS p b n g t j
theorem fwI_lt {p : Nat} (hp : 0 < p) {b : Nat → Nat → Nat} {g : Nat → Nat} {i : Nat} (h : g i < p) : ∀ k, fwI p b g i k < p
  | 0 => h
  | k + 1 => md_lt hp _
theorem fwS_lt {p n : Nat} (hp : 0 < p) {b : Nat → Nat → Nat} {s : Nat → Nat} (h : ∀ j, j < n → s j < p) : ∀ i j, j < n → fwS p b s i j < p
  | 0, j, hj => h j hj
  | i + 1, j, hj => by
    show (if j = i then fwI p b (fwS p b s i) i i else fwS p b s i j) < p
    by_cases e : j = i
    · rw [if_pos e]; exact fwI_lt hp (fwS_lt hp h i i (by omega)) i
    · rw [if_neg e]; exact fwS_lt hp h i j hj
theorem bkI_lt {p : Nat} (hp : 0 < p) {b : Nat → Nat → Nat} {g : Nat → Nat} {i v : Nat} (h : v < p) : ∀ k, bkI p b g i v k < p
  | 0 => h
  | k + 1 => md_lt hp _
theorem bkS_lt {p n : Nat} (hp : 0 < p) {b : Nat → Nat → Nat} {g : Nat → Nat} (h : ∀ j, j < n → g j < p) : ∀ t j, j < n → bkS p b n g t j < p
  | 0, j, hj => h j hj
  | t + 1, j, hj => by
    show (if j = n - 1 - t then bkI p b (bkS p b n g t) (n - 1 - t) (g (n - 1 - t) * iv p (Bk p b (n - 1 - t) (n - 1 - t) (n - 1 - t)) % p) t else bkS p b n g t j) < p
    by_cases e : j = n - 1 - t
    · rw [if_pos e]; exact bkI_lt hp (Nat.mod_lt _ hp) t
    · rw [if_neg e]; exact bkS_lt hp h t j hj
theorem bkS_low {p n : Nat} {b : Nat → Nat → Nat} {g : Nat → Nat} : ∀ t j, t ≤ n → j < n - t → bkS p b n g t j = g j
  | 0, j, _, _ => rfl
  | t + 1, j, ht, hj => by
    show (if j = n - 1 - t then bkI p b (bkS p b n g t) (n - 1 - t) (g (n - 1 - t) * iv p (Bk p b (n - 1 - t) (n - 1 - t) (n - 1 - t)) % p) t else bkS p b n g t j) = g j
    rw [if_neg (by omega)]; exact bkS_low t j (by omega) (by omega)
section RS
variable {n p : Nat} {b : Nat → Nat → Nat} {s : Nat → Nat} {I : jM} {a : Nat → Nat → Nat} {hd : Nat → Bool} {od pl sd : Nat → Nat}
/-- the class's resolve() -/
theorem t_resolve (hn1 : 1 ≤ n) (hn : n ≤ 24) (hp2 : 2 ≤ p) (hp3 : p ≤ 32749) (h14 : I 1 4 = nI n) (h20 : I 2 0 = nI p) (hv : ∀ k, k < n → I 95 k = nI (iv p (Bk p b k k k)) ∧ ∀ i, k < i → i < n → I (70 + i) k = nI (on1 p b i k)) (hsl : ∀ j, j < n → s j < p) (h96 : ∀ j, j < n → I 96 j = nI (s j)) {K : jM → Prop} (hK : ∀ J : jM, (∀ x, x ≠ 96 → J x = I x) → (∀ j, j < n → J 96 j = nI (bkS p b n (fwS p b s n) n j)) → K J) : WO_resolve 68 1 I K := by
  have hp0 : 0 < p := by omega
  have fl := fwS_lt (n := n) (p := p) hp0 (b := b) hsl
  unfold WO_resolve
  intro v ev
  rw [h14] at ev
  subst ev
  unfold WO_resolve_13
  simp only [jrs]
  refine lp_n2 n (fun i v J => v = nI i ∧ (∀ x, x ≠ 96 → J x = I x) ∧ ∀ j, j < n → J 96 j = nI (fwS p b s i j)) ?_ ?_ (Nat.zero_le n) ⟨rfl, fun _ _ => rfl, h96⟩
  · rintro i v J X hi ⟨rfl, j1, j2⟩ go
    unfold WO_resolve_13b
    dsimp only
    refine ⟨fun q => absurd q (ge_no hi (by omega)), fun _ => ?_⟩
    unfold WO_resolve_22
    refine lp_n2 i (fun k v J2 => v = nI k ∧ (∀ x, x ≠ 96 → J2 x = I x) ∧ J2 96 i = nI (fwI p b (fwS p b s i) i k) ∧ ∀ j, j < n → j ≠ i → J2 96 j = nI (fwS p b s i j)) ?_ ?_ (Nat.zero_le i) ⟨rfl, j1, j2 i hi, fun j hj _ => j2 j hj⟩
    · rintro k v J2 X2 hk ⟨rfl, m1, m2, m3⟩ go2
      have l1 := on1_lt hp0 b i k
      have l2 := fl i k (by omega)
      have l3 := fwI_lt hp0 (b := b) (fl i i hi) k
      have s1 := mul_small hp3 l1 l2
      unfold WO_resolve_22b
      dsimp only
      simp only [jrs, jws69]
      rw [clamp (show i < 2 ^ 31 by omega), clamp (show k < 2 ^ 31 by omega), m2, m1 (70 + i) (by omega), (hv k (by omega)).2 i hk hi, m3 k (by omega) (by omega), pk_mul]
      refine ⟨fun q => absurd q (ge_no hk (by omega)), fun _ => ⟨vp_in_nI (by omega) (by omega), vp_in_nI (by omega) (by omega), vp_in_nI (by omega) (by omega), vp_in_nI (by omega) (by omega), t_reduce hp2 (by omega) (by rw [m1 2 (by omega)]; exact h20) _ ⟨vp_in_nI (by omega) (by omega), fun J3 f3 => ?_⟩⟩⟩
      rw [pk_sub_toInt (by omega) s1] at f3
      refine go2 _ _ ⟨nI_1 k, fun x hx => by rw [f3, jwr_ne hx]; exact m1 x hx, by rw [f3, jwr_at, if_pos ⟨rfl, rfl⟩]; rfl, fun j hj hne => by rw [f3, jwr_at, if_neg (by omega)]; exact m3 j hj hne⟩
    · rintro v J2 X2 ⟨rfl, m1, m2, m3⟩
      unfold WO_resolve_22b
      dsimp only
      refine ⟨fun _ => go _ _ ⟨nI_1 i, m1, fun j hj => ?_⟩, fun q => absurd (nI_le (Nat.le_refl i) (by omega)) q⟩
      show J2 96 j = nI (if j = i then fwI p b (fwS p b s i) i i else fwS p b s i j)
      by_cases e : j = i
      · rw [if_pos e, e]; exact m2
      · rw [if_neg e]; exact m3 j hj e
  · rintro v J X ⟨rfl, j1, j2⟩
    unfold WO_resolve_13b
    dsimp only
    refine ⟨fun _ v4 e4 => ?_, fun q => absurd (nI_le (Nat.le_refl n) (by omega)) q⟩
    obtain ⟨g, hg⟩ : ∃ g : Nat → Nat, g = fwS p b s n := ⟨_, rfl⟩
    rw [← hg] at j2 hK
    have gl : ∀ j, j < n → g j < p := fun j hj => by rw [hg]; exact fl n j hj
    have bl := bkS_lt (n := n) (p := p) hp0 (b := b) gl
    subst e4
    unfold WO_resolve_83
    refine lp_n2 n (fun t v J => v = nI (n - t) - 1 ∧ (∀ x, x ≠ 96 → J x = I x) ∧ ∀ j, j < n → J 96 j = nI (bkS p b n g t j)) ?_ ?_ (Nat.zero_le n) ⟨rfl, j1, j2⟩
    · rintro t v J X ht ⟨rfl, j1, j2⟩ go
      have e0 : nI (n - t) - 1 = nI (n - 1 - t) := by rw [nI_dn ht]; congr 1; omega
      obtain ⟨i, hie⟩ : ∃ i, i = n - 1 - t := ⟨_, rfl⟩
      have hi : i < n := by omega
      rw [e0, ← hie]
      have l1 := bl t i hi
      have l2 := iv_lt (p := p) (d := Bk p b i i i) hp0
      unfold WO_resolve_83b
      dsimp only
      simp only [jrs]
      rw [clamp (show i < 2 ^ 31 by omega), j2 i hi, j1 95 (by omega), (hv i hi).1]
      refine ⟨fun q => absurd q (nI_pos (by omega)), fun _ => ⟨vp_in_nI (by omega) (by omega), vp_in_nI (by omega) (by omega), t_times hp2 hp3 (by rw [j1 2 (by omega)]; exact h20) l1 l2 ⟨vp_in_nI (by omega) (by omega), fun J2 f2 v5 e5 => ?_⟩⟩⟩
      rw [nI_1] at e5
      subst e5
      rw [bkS_low t i (by omega) (by omega)] at f2
      have l3 : g i * iv p (Bk p b i i i) % p < p := Nat.mod_lt _ hp0
      unfold WO_resolve_119
      refine lp_n2 t (fun m v J3 => v = nI (i + 1 + m) ∧ (∀ x, x ≠ 96 → J3 x = I x) ∧ J3 96 i = nI (bkI p b (bkS p b n g t) i (g i * iv p (Bk p b i i i) % p) m) ∧ ∀ j, j < n → j ≠ i → J3 96 j = nI (bkS p b n g t j)) ?_ ?_ (Nat.zero_le t) ⟨rfl, fun x hx => by rw [f2, jwr_ne hx]; exact j1 x hx, by rw [f2, jwr_at, if_pos ⟨rfl, rfl⟩]; rfl, fun j hj hne => by rw [f2, jwr_at, if_neg (by omega)]; exact j2 j hj⟩
      · rintro m v J3 X2 hm ⟨rfl, m1, m2, m3⟩ go2
        have q1 := on1_lt hp0 b (i + 1 + m) i
        have q2 := bl t (i + 1 + m) (by omega)
        have q3 := bkI_lt hp0 (b := b) (g := bkS p b n g t) (i := i) l3 m
        have s1 := mul_small hp3 q1 q2
        unfold WO_resolve_119b
        dsimp only
        simp only [jrs, jws69]
        rw [clamp (show i < 2 ^ 31 by omega), clamp (show i + 1 + m < 2 ^ 31 by omega), m2, m1 (70 + (i + 1 + m)) (by omega), (hv i hi).2 (i + 1 + m) (by omega) (by omega), m3 (i + 1 + m) (by omega) (by omega), pk_mul]
        refine ⟨fun q => absurd q (ge_no (by omega) (by omega)), fun _ => ⟨vp_in_nI (by omega) (by omega), vp_in_nI (by omega) (by omega), vp_in_nI (by omega) (by omega), vp_in_nI (by omega) (by omega), t_reduce hp2 (by omega) (by rw [m1 2 (by omega)]; exact h20) _ ⟨vp_in_nI (by omega) (by omega), fun J4 f4 => ?_⟩⟩⟩
        rw [pk_sub_toInt (by omega) s1] at f4
        exact go2 _ _ ⟨nI_1 (i + 1 + m), fun x hx => by rw [f4, jwr_ne hx]; exact m1 x hx, by rw [f4, jwr_at, if_pos ⟨rfl, rfl⟩]; rfl, fun j hj hne => by rw [f4, jwr_at, if_neg (by omega)]; exact m3 j hj hne⟩
      · rintro v J3 X2 ⟨rfl, m1, m2, m3⟩
        unfold WO_resolve_119b
        dsimp only
        refine ⟨fun _ => go _ _ ⟨?_, m1, fun j hj => ?_⟩, fun q => absurd (nI_le (show n ≤ i + 1 + t by omega) (by omega)) q⟩
        · rw [nI_m1, show n - (t + 1) = i by omega]
        · show J3 96 j = nI (if j = n - 1 - t then bkI p b (bkS p b n g t) (n - 1 - t) (g (n - 1 - t) * iv p (Bk p b (n - 1 - t) (n - 1 - t) (n - 1 - t)) % p) t else bkS p b n g t j)
          rw [← hie]
          by_cases e : j = i
          · rw [if_pos e, e]; exact m2
          · rw [if_neg e]; exact m3 j hj e
    · rintro v J X ⟨rfl, j1, j2⟩
      unfold WO_resolve_83b
      dsimp only
      rw [Nat.sub_self]
      exact ⟨fun _ => hK J j1 j2, fun q => absurd (by decide) q⟩
/-- the reference's solveAll() -/
theorem tM_solveAll (hn1 : 1 ≤ n) (hn : n ≤ 24) (hp2 : 2 ≤ p) (hp3 : p ≤ 32749) (ho : Perm n od pl) (mt : MT n p a hd sd I) (mr : MR n od I) (hb : ∀ i j, i < n → j < n → b i j < p) (hv : ∀ k, k < n → Bk p b k k k ≠ 0 ∧ I 114 (od k) = nI (Bk p b k k k) ∧ ∀ i, k < i → i < n → I 115 (24 * od i + od k) = nI (on1 p b i k)) (hsl : ∀ j, j < n → s j < p) (h96 : ∀ j, j < n → I 116 (od j) = nI (s j)) {K : jM → Prop} (hK : ∀ J : jM, (∀ x, x ≠ 116 → J x = I x) → (∀ j, j < n → J 116 (od j) = nI (bkS p b n (fwS p b s n) n j)) → K J) : MD_solveAll 100 I K := by
  have hp0 : 0 < p := by omega
  have fl := fwS_lt (n := n) (p := p) hp0 (b := b) hsl
  have hlt := Bk_lt hp0 hb
  unfold MD_solveAll MD_solveAll_2
  refine lp_n2 n (fun i v J => v = nI i ∧ (∀ x, x ≠ 116 → J x = I x) ∧ ∀ j, j < n → J 116 (od j) = nI (fwS p b s i j)) ?_ ?_ (Nat.zero_le n) ⟨rfl, fun _ _ => rfl, h96⟩
  · rintro i v J X hi ⟨rfl, j1, j2⟩ go
    unfold MD_solveAll_2b
    dsimp only
    rw [j1 100 (by omega), mt.1]
    refine ⟨fun q => absurd q (ge_no hi (by omega)), fun _ => ?_⟩
    unfold MD_solveAll_12
    have oi := (ho i hi).1
    refine lp_n2 i (fun k v J2 => v = nI k ∧ (∀ x, x ≠ 116 → J2 x = I x) ∧ J2 116 (od i) = nI (fwI p b (fwS p b s i) i k) ∧ ∀ j, j < n → j ≠ i → J2 116 (od j) = nI (fwS p b s i j)) ?_ ?_ (Nat.zero_le i) ⟨rfl, j1, j2 i hi, fun j hj _ => j2 j hj⟩
    · rintro k v J2 X2 hk ⟨rfl, m1, m2, m3⟩ go2
      have ok := (ho k (by omega)).1
      have l1 := on1_lt hp0 b i k
      have l2 := fl i k (by omega)
      have l3 := fwI_lt hp0 (b := b) (fl i i hi) k
      have s1 := mul_small hp3 l1 l2
      unfold MD_solveAll_12b
      dsimp only
      simp only [jrs]
      rw [clamp (show i < 2 ^ 31 by omega), clamp (show k < 2 ^ 31 by omega), m1 103 (by omega), mr i hi, mr k (by omega), show (24 : Int32) = nI 24 from rfl, pk_mul, nI_add, clamp (show 24 * od i + od k < 2 ^ 31 by omega), clamp (show od i < 2 ^ 31 by omega), clamp (show od k < 2 ^ 31 by omega), m2, m1 115 (by omega), (hv k (by omega)).2.2 i hk hi, m3 k (by omega) (by omega), nI_l (show fwI p b (fwS p b s i) i k < 2 ^ 31 by omega), nI_l (show on1 p b i k < 2 ^ 31 by omega), nI_l (show fwS p b s i k < 2 ^ 31 by omega), lN_mul]
      refine ⟨fun q => absurd q (ge_no hk (by omega)), fun _ => ⟨vp_in_nI (by omega) (by omega), vp_in_nI (by omega) (by omega), vp_in_nI (by omega) (by omega), vp_in_nI (by omega) (by omega), vp_in_nI (by omega) (by omega), vp_in_nI (by omega) (by omega), vp_in_nI (by omega) (by omega), vp_in_nI (by omega) (by omega), t_modulo hp2 (by omega) (by rw [m1 100 (by omega)]; exact mt.2.1) _ ⟨vp_in_nI (by omega) (by omega), fun J3 f3 => ?_⟩⟩⟩
      rw [lN_subI (by omega) (by omega)] at f3
      exact go2 _ _ ⟨nI_1 k, fun x hx => by rw [f3, jwr_ne hx]; exact m1 x hx, by rw [f3, jwr_at, if_pos ⟨rfl, rfl⟩]; rfl, fun j hj hne => by rw [f3, jwr_at, if_neg (fun e => hne (ho.inj hj hi e.2))]; exact m3 j hj hne⟩
    · rintro v J2 X2 ⟨rfl, m1, m2, m3⟩
      unfold MD_solveAll_12b
      dsimp only
      refine ⟨fun _ => go _ _ ⟨nI_1 i, m1, fun j hj => ?_⟩, fun q => absurd (nI_le (Nat.le_refl i) (by omega)) q⟩
      show J2 116 (od j) = nI (if j = i then fwI p b (fwS p b s i) i i else fwS p b s i j)
      by_cases e : j = i
      · rw [if_pos e, e]; exact m2
      · rw [if_neg e]; exact m3 j hj e
  · rintro v J X ⟨rfl, j1, j2⟩
    unfold MD_solveAll_2b
    dsimp only
    rw [j1 100 (by omega), mt.1]
    refine ⟨fun _ => ?_, fun q => absurd (nI_le (Nat.le_refl n) (by omega)) q⟩
    obtain ⟨g, hg⟩ : ∃ g : Nat → Nat, g = fwS p b s n := ⟨_, rfl⟩
    rw [← hg] at j2 hK
    have gl : ∀ j, j < n → g j < p := fun j hj => by rw [hg]; exact fl n j hj
    have bl := bkS_lt (n := n) (p := p) hp0 (b := b) gl
    unfold MD_solveAll_94
    refine lp_n2 n (fun t v J => v = nI t ∧ (∀ x, x ≠ 116 → J x = I x) ∧ ∀ u, u < n → J 116 u = nI (if u < t then g (pl u) * iv p (Bk p b (pl u) (pl u) (pl u)) % p else g (pl u))) ?_ ?_ (Nat.zero_le n) ⟨rfl, j1, fun u hu => by
      obtain ⟨-, -, o3, o4⟩ := ho u hu
      rw [if_neg (Nat.not_lt_zero u)]
      have := j2 (pl u) o3
      rw [o4] at this
      exact this⟩
    · rintro t v J X ht ⟨rfl, j1, j2⟩ go
      obtain ⟨-, -, o3, o4⟩ := ho t ht
      have h114 := (hv (pl t) o3).2.1
      rw [o4] at h114
      have hnz := (hv (pl t) o3).1
      have l1 := hlt (pl t) (pl t) (pl t) o3 o3
      have l2 := gl (pl t) o3
      have l3 := iv_lt (p := p) (d := Bk p b (pl t) (pl t) (pl t)) hp0
      have s1 := mul_small hp3 l2 l3
      unfold MD_solveAll_94b
      dsimp only
      simp only [jrs]
      rw [clamp (show t < 2 ^ 31 by omega), j1 100 (by omega), mt.1, j2 t ht, if_neg (Nat.lt_irrefl t), j1 114 (by omega), h114, mt.2.1, nI_l (show p < 2 ^ 31 by omega), nI_l (show g (pl t) < 2 ^ 31 by omega)]
      refine ⟨fun q => absurd q (ge_no ht (by omega)), fun _ => ⟨vp_in_nI (by omega) (by omega), vp_in_nI (by omega) (by omega), tM_inverse hp2 hp3 (by rw [j1 100 (by omega)]; exact mt.2.1) l1 (Nat.pos_of_ne_zero hnz) ⟨lNz (by omega) (by omega), vp_in_nI (by omega) (by omega), fun J3 f3 => ?_⟩⟩⟩
      rw [nI_l (show iv p (Bk p b (pl t) (pl t) (pl t)) < 2 ^ 31 by omega), lN_mul, pk_lRem (by omega) (by omega) (by omega), lN_i] at f3
      refine go _ _ ⟨nI_1 t, fun x hx => by rw [f3, jwr_ne hx]; exact j1 x hx, fun u hu => ?_⟩
      rw [f3, jwr_at]
      by_cases e : u = t
      · rw [if_pos ⟨rfl, e⟩, e, if_pos (by omega)]
      · rw [if_neg (fun e2 => e e2.2), j2 u hu]
        by_cases e3 : u < t
        · rw [if_pos e3, if_pos (by omega)]
        · rw [if_neg e3, if_neg (by omega)]
    · rintro v J X ⟨rfl, j1, j2⟩
      unfold MD_solveAll_94b
      dsimp only
      rw [j1 100 (by omega), mt.1]
      refine ⟨fun _ v4 e4 => ?_, fun q => absurd (nI_le (Nat.le_refl n) (by omega)) q⟩
      subst e4
      unfold MD_solveAll_147
      refine lp_n2 n (fun t v J => v = nI (n - t) - 1 ∧ (∀ x, x ≠ 116 → J x = I x) ∧ ∀ j, j < n → J 116 (od j) = nI (if n - t ≤ j then bkS p b n g t j else g j * iv p (Bk p b j j j) % p)) ?_ ?_ (Nat.zero_le n) ⟨rfl, j1, fun j hj => by
        rw [if_neg (by omega), j2 _ (ho j hj).1, if_pos (ho j hj).1, (ho j hj).2.1]⟩
      · rintro t v J X ht ⟨rfl, j1, j2⟩ go
        have e0 : nI (n - t) - 1 = nI (n - 1 - t) := by rw [nI_dn ht]; congr 1; omega
        obtain ⟨i, hie⟩ : ∃ i, i = n - 1 - t := ⟨_, rfl⟩
        have hi : i < n := by omega
        have oi := (ho i hi).1
        rw [e0, ← hie]
        unfold MD_solveAll_147b
        dsimp only
        refine ⟨fun q => absurd q (nI_pos (by omega)), fun _ v5 e5 => ?_⟩
        rw [nI_1] at e5
        subst e5
        have l3 : g i * iv p (Bk p b i i i) % p < p := Nat.mod_lt _ hp0
        unfold MD_solveAll_155
        refine lp_n2 t (fun m v J3 => v = nI (i + 1 + m) ∧ (∀ x, x ≠ 116 → J3 x = I x) ∧ J3 116 (od i) = nI (bkI p b (bkS p b n g t) i (g i * iv p (Bk p b i i i) % p) m) ∧ ∀ j, j < n → j ≠ i → J3 116 (od j) = nI (if n - t ≤ j then bkS p b n g t j else g j * iv p (Bk p b j j j) % p)) ?_ ?_ (Nat.zero_le t) ⟨rfl, j1, by rw [j2 i hi, if_neg (by omega)]; rfl, fun j hj _ => j2 j hj⟩
        · rintro m v J3 X2 hm ⟨rfl, m1, m2, m3⟩ go2
          have om := (ho (i + 1 + m) (by omega)).1
          have q1 := on1_lt hp0 b (i + 1 + m) i
          have q2 := bl t (i + 1 + m) (by omega)
          have q3 := bkI_lt hp0 (b := b) (g := bkS p b n g t) (i := i) l3 m
          have s1 := mul_small hp3 q1 q2
          unfold MD_solveAll_155b
          dsimp only
          simp only [jrs]
          rw [clamp (show i < 2 ^ 31 by omega), clamp (show i + 1 + m < 2 ^ 31 by omega), m1 100 (by omega), mt.1, m1 103 (by omega), mr i hi, mr (i + 1 + m) (by omega), show (24 : Int32) = nI 24 from rfl, pk_mul, nI_add, clamp (show 24 * od (i + 1 + m) + od i < 2 ^ 31 by omega), clamp (show od i < 2 ^ 31 by omega), clamp (show od (i + 1 + m) < 2 ^ 31 by omega), m2, m1 115 (by omega), (hv i hi).2.2 (i + 1 + m) (by omega) (by omega), m3 (i + 1 + m) (by omega) (by omega), if_pos (show n - t ≤ i + 1 + m by omega), nI_l (show bkI p b (bkS p b n g t) i (g i * iv p (Bk p b i i i) % p) m < 2 ^ 31 by omega), nI_l (show on1 p b (i + 1 + m) i < 2 ^ 31 by omega), nI_l (show bkS p b n g t (i + 1 + m) < 2 ^ 31 by omega), lN_mul]
          refine ⟨fun q => absurd q (ge_no (by omega) (by omega)), fun _ => ⟨vp_in_nI (by omega) (by omega), vp_in_nI (by omega) (by omega), vp_in_nI (by omega) (by omega), vp_in_nI (by omega) (by omega), vp_in_nI (by omega) (by omega), vp_in_nI (by omega) (by omega), vp_in_nI (by omega) (by omega), vp_in_nI (by omega) (by omega), t_modulo hp2 (by omega) (by rw [m1 100 (by omega)]; exact mt.2.1) _ ⟨vp_in_nI (by omega) (by omega), fun J4 f4 => ?_⟩⟩⟩
          rw [lN_subI (by omega) (by omega)] at f4
          exact go2 _ _ ⟨nI_1 (i + 1 + m), fun x hx => by rw [f4, jwr_ne hx]; exact m1 x hx, by rw [f4, jwr_at, if_pos ⟨rfl, rfl⟩]; rfl, fun j hj hne => by rw [f4, jwr_at, if_neg (fun e => hne (ho.inj hj hi e.2))]; exact m3 j hj hne⟩
        · rintro v J3 X2 ⟨rfl, m1, m2, m3⟩
          unfold MD_solveAll_155b
          dsimp only
          rw [m1 100 (by omega), mt.1]
          refine ⟨fun _ => go _ _ ⟨?_, m1, fun j hj => ?_⟩, fun q => absurd (nI_le (show n ≤ i + 1 + t by omega) (by omega)) q⟩
          · rw [nI_m1, show n - (t + 1) = i by omega]
          · by_cases e : j = i
            · rw [if_pos (by omega), e]
              show J3 116 (od i) = nI (if i = n - 1 - t then bkI p b (bkS p b n g t) (n - 1 - t) (g (n - 1 - t) * iv p (Bk p b (n - 1 - t) (n - 1 - t) (n - 1 - t)) % p) t else bkS p b n g t i)
              rw [← hie, if_pos rfl]
              exact m2
            · rw [m3 j hj e]
              by_cases e3 : n - t ≤ j
              · rw [if_pos e3, if_pos (by omega)]
                show _ = nI (if j = n - 1 - t then bkI p b (bkS p b n g t) (n - 1 - t) (g (n - 1 - t) * iv p (Bk p b (n - 1 - t) (n - 1 - t) (n - 1 - t)) % p) t else bkS p b n g t j)
                rw [if_neg (by omega)]
              · rw [if_neg e3, if_neg (by omega)]
      · rintro v J X ⟨rfl, j1, j2⟩
        unfold MD_solveAll_147b
        dsimp only
        rw [Nat.sub_self]
        refine ⟨fun _ => hK J j1 (fun j hj => ?_), fun q => absurd (by decide) q⟩
        rw [j2 j hj, if_pos (by omega)]
end RS
