/-! ===== how many FILLS an ORDER has; lists in cells ===== -/
def fo (od : Nat → Nat) (i : Nat) : List Nat := (List.range i).map od
theorem fo_succ (od : Nat → Nat) (i : Nat) : fo od (i + 1) = fo od i ++ [od i] := by unfold fo; rw [List.range_succ]; simp
theorem Gi_succ (n : Nat) (a : Nat → Nat → Nat) (od : Nat → Nat) (i : Nat) : Gi n a od (i + 1) = el (Gi n a od i) (od i) := by
  show elL _ (fo od (i + 1)) = el (elL _ (fo od i)) _
  rw [fo_succ, elL_app]
theorem mem_fo {od : Nat → Nat} {i x : Nat} : x ∈ fo od i ↔ ∃ j, j < i ∧ od j = x := by unfold fo; simp
/-- od is an ORDER of n, pl its places -/
def Perm (n : Nat) (od pl : Nat → Nat) : Prop := ∀ i, i < n → od i < n ∧ pl (od i) = i ∧ pl i < n ∧ od (pl i) = i
theorem Perm.inj {n : Nat} {od pl : Nat → Nat} (h : Perm n od pl) {i j : Nat} (hi : i < n) (hj : j < n) (e : od i = od j) : i = j := by
  rw [← (h i hi).2.1, ← (h j hj).2.1, e]
theorem Perm.mem {n : Nat} {od pl : Nat → Nat} (h : Perm n od pl) {i u : Nat} (hi : i ≤ n) (hu : u < n) : u ∈ fo od i ↔ pl u < i := by
  rw [mem_fo]
  constructor
  · rintro ⟨j, hj, rfl⟩
    rw [(h j (by omega)).2.1]; exact hj
  · intro hp
    exact ⟨pl u, hp, (h u hu).2.2.2⟩
theorem Perm.notin {n : Nat} {od pl : Nat → Nat} (h : Perm n od pl) {i : Nat} (hi : i < n) : od i ∉ fo od i := by
  rw [h.mem (by omega) (h i hi).1, (h i hi).2.1]; omega
theorem Perm.nodup {n : Nat} {od pl : Nat → Nat} (h : Perm n od pl) : ∀ i, i ≤ n → (fo od i).Nodup
  | 0, _ => by unfold fo; simp
  | i + 1, hi => by
    rw [fo_succ, List.nodup_append]
    refine ⟨h.nodup i (by omega), by simp, fun x hx y hy e => ?_⟩
    rw [List.mem_singleton.mp hy] at e
    exact h.notin (by omega) (e ▸ hx)
/-- the list l stands in cell c, its length in field f of cell h -/
theorem held_push {I : jM} {c h f : Nat} {l : List Nat} {v : Nat} (hd : Held I c l) (hne : c ≠ h) : Held (jwr (jwr I c l.length (nI v)) h f (nI (l.length + 1))) c (l ++ [v]) ∧ jwr (jwr I c l.length (nI v)) h f (nI (l.length + 1)) h f = nI (l ++ [v]).length := by
  constructor
  · intro k hk
    rw [jwr_ne hne, jwr_at]
    rw [List.length_append, List.length_singleton] at hk
    by_cases e : k = l.length
    · subst e
      rw [if_pos ⟨rfl, rfl⟩, List.getD_eq_getElem?_getD, List.getElem?_append_right (Nat.le_refl _)]
      simp
    · rw [if_neg (by omega), hd k (by omega), List.getD_eq_getElem?_getD, List.getD_eq_getElem?_getD, List.getElem?_append_left (by omega)]
  · rw [jwr_at, if_pos ⟨rfl, rfl⟩]; simp
def flq (g : Gr) (u x y : Nat) : Bool := decide (x < y) && g u x && g u y && !g x y
def flA (g : Gr) (u x k : Nat) : List Nat := ((List.range k).filter (flq g u x)).map (fun b => 32 * x + b)
def flP (g : Gr) (n u k : Nat) : List Nat := (List.range k).flatMap (fun x => flA g u x n)
def FLP (n : Nat) (a : Nat → Nat → Nat) (od : Nat → Nat) (i : Nat) : List Nat := (List.range i).flatMap (fun i => fl (Gi n a od i) n (od i))
theorem flA_succ (g : Gr) (u x k : Nat) : flA g u x (k + 1) = flA g u x k ++ (if flq g u x k then [32 * x + k] else []) := by
  unfold flA
  rw [List.range_succ, List.filter_append, List.map_append]
  cases h : flq g u x k <;> simp [h]
theorem flP_succ (g : Gr) (n u k : Nat) : flP g n u (k + 1) = flP g n u k ++ flA g u k n := by
  unfold flP
  rw [List.range_succ, List.flatMap_append]; simp
theorem fl_eq (g : Gr) (n u : Nat) : fl g n u = flP g n u n := rfl
theorem FLP_succ (n : Nat) (a : Nat → Nat → Nat) (od : Nat → Nat) (i : Nat) : FLP n a od (i + 1) = FLP n a od i ++ fl (Gi n a od i) n (od i) := by
  unfold FLP
  rw [List.range_succ, List.flatMap_append]; simp
theorem flA_len (g : Gr) (u x : Nat) : ∀ k, (flA g u x k).length = fb_ct (flq g u x) k
  | 0 => rfl
  | k + 1 => by
    rw [flA_succ, List.length_append, flA_len g u x k, fb_ct_succ]
    cases flq g u x k <;> rfl
theorem flP_len (g : Gr) (n u : Nat) : ∀ k, (flP g n u k).length = fb_sm (fun x => fb_ct (flq g u x) n) k
  | 0 => rfl
  | k + 1 => by rw [flP_succ, List.length_append, flP_len g n u k, fb_sm_succ, flA_len]
/-- how many pairs are JOINED -/
def Eg (n : Nat) (g : Gr) : Nat := fb_sm (fun x => fb_ct (fun y => decide (x < y) && g x y) n) n
theorem Eg_le (n : Nat) (hn : n ≤ 24) (g : Gr) : Eg n g ≤ 276 := by
  have h1 : ∀ x n, n ≤ 24 → fb_ct (fun y => decide (x < y) && g x y) n ≤ 23 - x := by
    intro x n
    induction n with
    | zero => intro _; exact Nat.zero_le _
    | succ n ih =>
      intro h
      rw [fb_ct_succ]
      by_cases hx : x < n
      · have h2 : fb_ct (fun y => decide (x < y) && g x y) n ≤ n - (x + 1) := by
          clear ih
          induction n with
          | zero => omega
          | succ n ih2 =>
            rw [fb_ct_succ]
            by_cases h3 : x < n
            · have := ih2 (by omega) h3
              split <;> omega
            · have e : x = n := by omega
              subst e
              have : fb_ct (fun y => decide (x < y) && g x y) x = 0 := fb_ct_zero.mpr (fun k hk => by rw [decide_eq_false (by omega)]; rfl)
              simp [this]
        split <;> omega
      · rw [decide_eq_false hx]
        have := ih (by omega)
        simpa using this
  unfold Eg
  have h2 : fb_sm (fun x => fb_ct (fun y => decide (x < y) && g x y) n) n ≤ fb_sm (fun x => 23 - x) n := fb_sm_le (fun k _ => h1 k n hn)
  have h3 := fb_sm_mono (fun x => 23 - x) n (24 - n)
  rw [show n + (24 - n) = 24 by omega] at h3
  have h4 : fb_sm (fun x => 23 - x) 24 = 276 := by decide
  omega
theorem Eg_ml {n : Nat} {g G : Gr} {u : Nat} {nb : Nat → Bool} (h1 : ∀ x, x < n → nb x = G u x) (h2 : ∀ x y, nb x = true → nb y = true → G x y = g x y) : Eg n (ml g nb) = Eg n g + (fl G n u).length := by
  rw [fl_eq, flP_len]
  unfold Eg
  rw [← fb_sm_add]
  apply fb_sm_cong
  intro x hx
  rw [← fb_ct_or]
  · apply fb_ct_cong
    intro y hy
    unfold ml flq
    rw [← h1 x hx, ← h1 y hy]
    by_cases hxy : x < y
    · rw [decide_eq_true hxy, decide_eq_false (show ¬ x = y by omega)]
      cases q1 : nb x <;> cases q2 : nb y <;> simp
      rw [h2 x y q1 q2]
      cases g x y <;> simp
    · rw [decide_eq_false hxy]; rfl
  · rintro y hy ⟨q1, q2⟩
    unfold flq at q2
    simp only [Bool.and_eq_true, decide_eq_true_eq, Bool.not_eq_true'] at q1 q2
    rw [← h1 x hx, ← h1 y hy] at q2
    rw [h2 x y q2.1.1.2 q2.1.2, q1.2] at q2
    exact absurd q2.2 (by decide)
/-- the reference's rows when the first i are OUT -/
def Mi (n : Nat) (a : Nat → Nat → Nat) (od : Nat → Nat) (i : Nat) : Gr := mlL (adj n a) [] (fo od i)
theorem Mi_near {n p : Nat} {a : Nat → Nat → Nat} {od pl : Nat → Nat} (hs : ∀ u w, u < n → w < n → a u w < p ∧ a u w = a w u) (ho : Perm n od pl) {i : Nat} (hi : i < n) (w : Nat) : (Mi n a od i (od i) w && !decide (w = od i) && !decide (w ∈ fo od i)) = Gi n a od i (od i) w := by
  have h := near_eq hs (ho.nodup i (by omega)) (ho.notin hi) w
  show _ = elL (adj n a) (fo od i) (od i) w
  rw [← h]
  by_cases e : w = od i
  · have hG := gg_elL hs (fo od i)
    have : elL (adj n a) (fo od i) (od i) w = false := by
      cases hh : elL (adj n a) (fo od i) (od i) w with
      | true => exact absurd e.symm (hG _ _ hh).2.2.2.2.1
      | false => rfl
    rw [h, this, e]; simp
  · unfold Mi; simp [e]
theorem Mi_succ {n p : Nat} {a : Nat → Nat → Nat} {od pl : Nat → Nat} (hs : ∀ u w, u < n → w < n → a u w < p ∧ a u w = a w u) (ho : Perm n od pl) {i : Nat} (hi : i < n) : Mi n a od (i + 1) = ml (Mi n a od i) (Gi n a od i (od i)) := by
  have e : Mi n a od (i + 1) = ml (Mi n a od i) (fun w => Mi n a od i (od i) w && !decide (w = od i) && !decide (w ∈ fo od i)) := by
    unfold Mi
    rw [fo_succ, mlL_app]
    rfl
  rw [e]
  congr 1
  funext w
  exact Mi_near hs ho hi w
theorem Mi_live {n p : Nat} {a : Nat → Nat → Nat} {od pl : Nat → Nat} (hs : ∀ u w, u < n → w < n → a u w < p ∧ a u w = a w u) (ho : Perm n od pl) {i : Nat} (hi : i ≤ n) {x y : Nat} (hx : x ∉ fo od i) (hy : y ∉ fo od i) : Mi n a od i x y = Gi n a od i x y := by
  have := near_eq hs (ho.nodup i hi) hx y
  rw [decide_eq_false hy] at this
  show _ = elL (adj n a) (fo od i) x y
  rw [← this]; unfold Mi; simp
theorem Gi_gg {n p : Nat} {a : Nat → Nat → Nat} {od : Nat → Nat} (hs : ∀ u w, u < n → w < n → a u w < p ∧ a u w = a w u) (i : Nat) : GG n (lvL (fo od i)) (Gi n a od i) := gg_elL hs (fo od i)
theorem lvL_iff {l : List Nat} {x : Nat} : lvL l x = true ↔ x ∉ l := by unfold lvL; simp
theorem FLP_len {n p : Nat} {a : Nat → Nat → Nat} {od pl : Nat → Nat} (hs : ∀ u w, u < n → w < n → a u w < p ∧ a u w = a w u) (ho : Perm n od pl) : ∀ i, i ≤ n → Eg n (Mi n a od 0) + (FLP n a od i).length = Eg n (Mi n a od i)
  | 0, _ => rfl
  | i + 1, hi => by
    have ih := FLP_len hs ho i (by omega)
    have hG := Gi_gg (od := od) hs i
    rw [FLP_succ, List.length_append, Mi_succ hs ho (by omega), Eg_ml (G := Gi n a od i) (u := od i) (fun _ _ => rfl) (fun x y hx hy => ?_)]
    · omega
    · exact (Mi_live hs ho (by omega) (lvL_iff.mp (hG _ _ hx).2.2.2.1) (lvL_iff.mp (hG _ _ hy).2.2.2.1)).symm
theorem FLP_le {n p : Nat} {a : Nat → Nat → Nat} {od pl : Nat → Nat} (hn : n ≤ 24) (hs : ∀ u w, u < n → w < n → a u w < p ∧ a u w = a w u) (ho : Perm n od pl) {i : Nat} (hi : i ≤ n) : (FLP n a od i).length ≤ 276 := by
  have h1 := FLP_len hs ho i hi
  have h2 := Eg_le n hn (Mi n a od i)
  omega
