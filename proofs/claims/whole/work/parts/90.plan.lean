/-! ===== plan, round ===== -/
theorem lp_n4 {α β γ δ : Type} {F : (α × β × γ × δ → Prop) → α × β × γ × δ → Prop} (n : Nat) (V : Nat → α → β → γ → δ → Prop) (hs : ∀ (k : Nat) (x : α) (y : β) (z : γ) (w : δ) (X : α × β × γ × δ → Prop), k < n → V k x y z w → (∀ x' y' z' w', V (k + 1) x' y' z' w' → X (x', y', z', w')) → F X (x, y, z, w)) (he : ∀ (x : α) (y : β) (z : γ) (w : δ) (X : α × β × γ × δ → Prop), V n x y z w → F X (x, y, z, w)) {k0 : Nat} {x : α} {y : β} {z : γ} {w : δ} (hk : k0 ≤ n) (h0 : V k0 x y z w) : lp F (x, y, z, w) := lp_n n (fun k s => V k s.1 s.2.1 s.2.2.1 s.2.2.2) (fun k s X hk hv go => hs k s.1 s.2.1 s.2.2.1 s.2.2.2 X hk hv (fun x' y' z' w' h => go (x', y', z', w') h)) (fun s X hv => he s.1 s.2.1 s.2.2.1 s.2.2.2 X hv) hk h0
theorem nI_ne9 {j : Nat} (hj : j < 2 ^ 31) : ¬ nI j = -9 := fun q => by
  have := congrArg Int32.toInt q
  rw [nI_toInt hj] at this
  have h9 : (-9 : Int32).toInt = -9 := by decide
  omega
abbrev PS : Type := (Nat → Bool) × (Nat → Bool) × (Nat → Nat)
/-- the place of the first of the highest in A, n: none -/
def bst (n : Nat) (a : Nat → Nat → Nat) (od : Nat → Nat) (A : Nat → Bool) : Nat → Nat
  | 0 => n
  | k + 1 => if (A (od k) && (decide (bst n a od A k = n) || decide (Ht n a od (bst n a od A k) < Ht n a od k))) = true then k else bst n a od A k
def pst (n : Nat) (a : Nat → Nat → Nat) (od : Nat → Nat) (r : Nat) (s : PS) : PS :=
  if bst n a od s.1 n < n then (fun x => s.1 x && !decide (x = od (bst n a od s.1 n)), fun x => s.2.1 x || decide (x = od (bst n a od s.1 n)), fun x => if x = od (bst n a od s.1 n) then r else s.2.2 x) else s
def pIt (n : Nat) (a : Nat → Nat → Nat) (od : Nat → Nat) (r : Nat) : Nat → PS → PS
  | 0, s => s
  | k + 1, s => pst n a od r (pIt n a od r k s)
def rdy (n : Nat) (a : Nat → Nat → Nat) (od pl : Nat → Nat) (D : Nat → Bool) : Nat → Bool := fun u => decide (u < n) && !D u && (List.range n).all (fun w => !decide (par n a od (pl w) = pl u) || D w)
def PD (n : Nat) (a : Nat → Nat → Nat) (od pl : Nat → Nat) (h : Nat) : Nat → (Nat → Bool) × (Nat → Nat)
  | 0 => (fun _ => false, fun _ => 0)
  | t + 1 => (pIt n a od t h (rdy n a od pl (PD n a od pl h t).1, (PD n a od pl h t).1, (PD n a od pl h t).2)).2
def Tend (n : Nat) (a : Nat → Nat → Nat) (od pl : Nat → Nat) (h : Nat) : Nat := fa_first (fun t => (List.range n).all (fun u => (PD n a od pl h t).1 u)) n
section PLN
variable {n p : Nat} {a : Nat → Nat → Nat} {od pl : Nat → Nat} {I : jM}
theorem bst_spec (A : Nat → Bool) : ∀ k, k ≤ n → (bst n a od A k = n ∧ ∀ j, j < k → A (od j) = false) ∨ (bst n a od A k < k ∧ A (od (bst n a od A k)) = true)
  | 0, _ => Or.inl ⟨rfl, fun j hj => absurd hj (Nat.not_lt_zero j)⟩
  | k + 1, hk => by
    have ih := bst_spec A k (by omega)
    unfold bst
    by_cases h : (A (od k) && (decide (bst n a od A k = n) || decide (Ht n a od (bst n a od A k) < Ht n a od k))) = true
    · rw [if_pos h]
      rw [Bool.and_eq_true] at h
      exact Or.inr ⟨by omega, h.1⟩
    · rw [if_neg h]
      rcases ih with ⟨e, ih⟩ | ⟨e, ih⟩
      · refine Or.inl ⟨e, fun j hj => ?_⟩
        by_cases ej : j = k
        · subst ej
          cases hA : A (od j) with
          | false => rfl
          | true => rw [hA, e] at h; simp at h
        · exact ih j (by omega)
      · exact Or.inr ⟨by omega, ih⟩
theorem pst_none {r : Nat} {s : PS} (h : ¬ bst n a od s.1 n < n) : pst n a od r s = s := if_neg h
theorem pIt_none {r : Nat} {s : PS} {k : Nat} (h : ¬ bst n a od (pIt n a od r k s).1 n < n) : ∀ d, pIt n a od r (k + d) s = pIt n a od r k s
  | 0 => rfl
  | d + 1 => by
    show pst n a od r (pIt n a od r (k + d) s) = _
    rw [pIt_none h d]; exact pst_none h
/-- what holds of a round that is under way -/
def Pok (n : Nat) (A0 D0 : Nat → Bool) (r : Nat) (s : PS) : Prop := (∀ u, s.1 u = (A0 u && !s.2.1 u)) ∧ (∀ u, s.2.1 u = true → u < n) ∧ (∀ u, D0 u = true → s.2.1 u = true) ∧ (∀ u, s.2.1 u = true → s.2.2 u ≤ r) ∧ ∀ u, s.2.1 u = true → (s.2.2 u < r ↔ D0 u = true)
theorem Pok.step (ho : Perm n od pl) {A0 D0 : Nat → Bool} {r : Nat} {s : PS} (h : Pok n A0 D0 r s) (hA : ∀ u, A0 u = true → D0 u = false) : Pok n A0 D0 r (pst n a od r s) := by
  unfold pst
  by_cases hb : bst n a od s.1 n < n
  · rw [if_pos hb]
    obtain ⟨h1, h2, h3, h4, h5⟩ := h
    have hAu : s.1 (od (bst n a od s.1 n)) = true := by
      rcases bst_spec (n := n) (a := a) (od := od) s.1 n (Nat.le_refl n) with ⟨e, -⟩ | ⟨-, e⟩
      · omega
      · exact e
    obtain ⟨u, hu⟩ : ∃ u, u = od (bst n a od s.1 n) := ⟨_, rfl⟩
    rw [← hu] at hAu ⊢
    have hun : u < n := by rw [hu]; exact (ho _ hb).1
    rw [h1 u, Bool.and_eq_true] at hAu
    refine ⟨fun x => ?_, fun x hx => ?_, fun x hx => ?_, fun x hx => ?_, fun x hx => ?_⟩
    · show (s.1 x && !decide (x = u)) = (A0 x && !(s.2.1 x || decide (x = u)))
      rw [h1 x]
      cases A0 x <;> cases s.2.1 x <;> cases decide (x = u) <;> rfl
    · by_cases e : x = u
      · omega
      · exact h2 x (by simpa [e] using hx)
    · show (s.2.1 x || decide (x = u)) = true
      rw [h3 x hx]; rfl
    · show (if x = u then r else s.2.2 x) ≤ r
      by_cases e : x = u
      · rw [if_pos e]; omega
      · rw [if_neg e]; exact h4 x (by simpa [e] using hx)
    · show (if x = u then r else s.2.2 x) < r ↔ _
      by_cases e : x = u
      · rw [if_pos e]
        constructor
        · intro q; omega
        · intro q; rw [e, hA u hAu.1] at q; cases q
      · rw [if_neg e]; exact h5 x (by simpa [e] using hx)
  · rw [if_neg hb]; exact h
theorem pIt_ok (ho : Perm n od pl) {A0 D0 : Nat → Bool} {R0 : Nat → Nat} {r : Nat} (h2 : ∀ u, D0 u = true → u < n ∧ R0 u < r) (hA : ∀ u, A0 u = true → D0 u = false) : ∀ k, Pok n A0 D0 r (pIt n a od r k (A0, D0, R0))
  | 0 => ⟨fun u => by
      show A0 u = (A0 u && !D0 u)
      cases h : A0 u with
      | false => rfl
      | true => rw [hA u h]; rfl, fun u hu => (h2 u hu).1, fun u hu => hu, fun u hu => Nat.le_of_lt (h2 u hu).2, fun u hu => ⟨fun _ => hu, fun _ => (h2 u hu).2⟩⟩
  | k + 1 => (pIt_ok ho h2 hA k).step ho hA
theorem rdy_no {D : Nat → Bool} {u : Nat} (h : rdy n a od pl D u = true) : D u = false := by
  unfold rdy at h
  simp only [Bool.and_eq_true, Bool.not_eq_true'] at h
  exact h.1.2
theorem PD_ok (ho : Perm n od pl) (h : Nat) : ∀ t u, (PD n a od pl h t).1 u = true → u < n ∧ (PD n a od pl h t).2 u < t
  | 0, u, hu => by cases hu
  | t + 1, u, hu => by
    have hp := pIt_ok (n := n) (a := a) ho (A0 := rdy n a od pl (PD n a od pl h t).1) (PD_ok ho h t) (fun u hu => rdy_no hu) h
    exact ⟨hp.2.1 u hu, Nat.lt_succ_of_le (hp.2.2.2.1 u hu)⟩
theorem ct_add {D : Nat → Bool} {u n : Nat} (hu : u < n) (hD : D u = false) : fb_ct (fun x => D x || decide (x = u)) n = fb_ct D n + 1 := by
  have h := fb_ct_upd D true hu
  have e : fb_ct (fun k => if k = u then true else D k) n = fb_ct (fun x => D x || decide (x = u)) n := fb_ct_cong (fun k _ => by
    by_cases ek : k = u <;> simp [ek])
  rw [e, hD] at h
  simpa using h
theorem pst_ct (ho : Perm n od pl) {A0 D0 : Nat → Bool} {r : Nat} {s : PS} (h : Pok n A0 D0 r s) (hb : bst n a od s.1 n < n) : fb_ct (pst n a od r s).2.1 n = fb_ct s.2.1 n + 1 := by
  unfold pst
  rw [if_pos hb]
  have hAu : s.1 (od (bst n a od s.1 n)) = true := by
    rcases bst_spec (n := n) (a := a) (od := od) s.1 n (Nat.le_refl n) with ⟨e, -⟩ | ⟨-, e⟩
    · omega
    · exact e
  rw [h.1, Bool.and_eq_true] at hAu
  exact ct_add (ho _ hb).1 (by simpa using hAu.2)
theorem pIt_mono (ho : Perm n od pl) {A0 D0 : Nat → Bool} {R0 : Nat → Nat} {r : Nat} (h2 : ∀ u, D0 u = true → u < n ∧ R0 u < r) (hA : ∀ u, A0 u = true → D0 u = false) : ∀ k, fb_ct D0 n ≤ fb_ct (pIt n a od r k (A0, D0, R0)).2.1 n ∧ (1 ≤ k → bst n a od A0 n < n → fb_ct D0 n + 1 ≤ fb_ct (pIt n a od r k (A0, D0, R0)).2.1 n)
  | 0 => ⟨Nat.le_refl _, fun q => absurd q (by omega)⟩
  | k + 1 => by
    obtain ⟨i1, i2⟩ := pIt_mono ho h2 hA k
    have hp := pIt_ok (n := n) (a := a) ho (R0 := R0) h2 hA k
    show _ ≤ fb_ct (pst n a od r (pIt n a od r k (A0, D0, R0))).2.1 n ∧ (_ → _ → _ ≤ fb_ct (pst n a od r (pIt n a od r k (A0, D0, R0))).2.1 n)
    by_cases hb : bst n a od (pIt n a od r k (A0, D0, R0)).1 n < n
    · rw [pst_ct ho hp hb]
      exact ⟨by omega, fun _ _ => by omega⟩
    · rw [pst_none hb]
      refine ⟨i1, fun _ q => ?_⟩
      rcases Nat.eq_zero_or_pos k with hk | hk
      · subst hk; exact absurd q hb
      · exact i2 hk q
/-- someone may always be done -/
theorem rdy_some (hs : ∀ u w, u < n → w < n → a u w < p ∧ a u w = a w u) (ho : Perm n od pl) {D : Nat → Bool} (h : ∃ i, i < n ∧ D (od i) = false) : bst n a od (rdy n a od pl D) n < n := by
  obtain ⟨i, hi, hD, hmin⟩ := fb_first (p := fun i => D (od i) = false) h
  have hr : rdy n a od pl D (od i) = true := by
    unfold rdy
    simp only [Bool.and_eq_true, Bool.not_eq_true', decide_eq_true_eq, List.all_eq_true, List.mem_range, Bool.or_eq_true, decide_eq_false_iff_not]
    refine ⟨⟨(ho i hi).1, hD⟩, fun w hw => ?_⟩
    rw [(ho i hi).2.1]
    by_cases e : par n a od (pl w) = i
    · refine Or.inr ?_
      have hlt := par_lt hs ho (ho w hw).2.2.1 (by omega)
      have := hmin (pl w) (by omega)
      rw [(ho w hw).2.2.2] at this
      simpa using this
    · exact Or.inl e
  rcases bst_spec (n := n) (a := a) (od := od) (rdy n a od pl D) n (Nat.le_refl n) with ⟨-, e⟩ | ⟨e, -⟩
  · rw [e i hi] at hr; cases hr
  · exact e
theorem all_iff (ho : Perm n od pl) {D : Nat → Bool} : (List.range n).all (fun u => D u) = true ↔ fb_ct D n = n := by
  rw [fb_ct_all]
  simp
theorem PD_ct (hs : ∀ u w, u < n → w < n → a u w < p ∧ a u w = a w u) (ho : Perm n od pl) {h : Nat} (hh : 1 ≤ h) : ∀ t, t ≤ fb_ct (PD n a od pl h t).1 n ∨ fb_ct (PD n a od pl h t).1 n = n
  | 0 => Or.inl (Nat.zero_le _)
  | t + 1 => by
    have ih := PD_ct hs ho hh t
    have hm := pIt_mono (n := n) (a := a) ho (A0 := rdy n a od pl (PD n a od pl h t).1) (PD_ok ho h t) (fun u hu => rdy_no hu) h
    have hle := fb_ct_le (PD n a od pl h (t + 1)).1 n
    have e : (PD n a od pl h (t + 1)).1 = (pIt n a od t h (rdy n a od pl (PD n a od pl h t).1, (PD n a od pl h t).1, (PD n a od pl h t).2)).2.1 := rfl
    rw [e] at hle ⊢
    by_cases hall : fb_ct (PD n a od pl h t).1 n = n
    · right; omega
    · left
      have hex : ∃ i, i < n ∧ (PD n a od pl h t).1 (od i) = false := by
        apply Classical.byContradiction
        intro hc
        apply hall
        rw [fb_ct_all]
        intro k hk
        cases hq : (PD n a od pl h t).1 k with
        | true => rfl
        | false => exact absurd ⟨pl k, (ho k hk).2.2.1, by rw [(ho k hk).2.2.2]; exact hq⟩ hc
      have := hm.2 hh (rdy_some hs ho hex)
      omega
theorem Tend_le (n : Nat) (a : Nat → Nat → Nat) (od pl : Nat → Nat) (h : Nat) : Tend n a od pl h ≤ n := fa_first_le _ n
theorem Tend_no (ho : Perm n od pl) {h t : Nat} (ht : t < Tend n a od pl h) : fb_ct (PD n a od pl h t).1 n < n := by
  have h1 := fa_first_no (fun t => (List.range n).all (fun u => (PD n a od pl h t).1 u)) n t ht
  have h2 := fb_ct_le (PD n a od pl h t).1 n
  rcases Nat.lt_or_ge (fb_ct (PD n a od pl h t).1 n) n with h3 | h3
  · exact h3
  · have := (all_iff ho).mpr (show fb_ct (PD n a od pl h t).1 n = n by omega)
    rw [this] at h1; cases h1
theorem Tend_yes (hs : ∀ u w, u < n → w < n → a u w < p ∧ a u w = a w u) (ho : Perm n od pl) {h : Nat} (hh : 1 ≤ h) : fb_ct (PD n a od pl h (Tend n a od pl h)).1 n = n := by
  rcases Nat.lt_or_ge (Tend n a od pl h) n with h1 | h1
  · exact (all_iff ho).mp (fa_first_yes (fun t => (List.range n).all (fun u => (PD n a od pl h t).1 u)) n h1)
  · have h2 := Tend_le n a od pl h
    have h3 := fb_ct_le (PD n a od pl h (Tend n a od pl h)).1 n
    rcases PD_ct hs ho hh (Tend n a od pl h) with h4 | h4 <;> omega
/-! the class -/
theorem t_allowed (hn : n ≤ 24) (ho : Perm n od pl) (hch : ∀ u, u < n → I 62 u = mk (fun w => decide (w < n) && decide (par n a od (pl w) = pl u))) (D : Nat → Bool) {K : Int32 → Prop} (hK : K (mk (rdy n a od pl D))) : PL_allowed (mk D) (nI n) 55 I K := by
  unfold PL_allowed PL_allowed_5
  refine lp_n2 n (fun k x y => y = nI k ∧ x = mk (fun u => decide (u < k) && rdy n a od pl D u)) ?_ ?_ (Nat.zero_le _) ⟨rfl, by rw [← mk_nil]; exact mk_ext (fun i _ => by simp)⟩
  · rintro k x y X hk ⟨rfl, rfl⟩ go
    unfold PL_allowed_5b
    dsimp only
    simp only [jrs]
    rw [mk_tst0 _ (by omega), clamp (by omega), hch k hk, mk_diff, mk_zero, mk_one (by omega), mk_or]
    have keep : rdy n a od pl D k = false → X (mk (fun u => decide (u < k) && rdy n a od pl D u), nI k + 1) := fun hr => go _ _ ⟨nI_1 k, mk_ext (fun i _ => by
      by_cases e : i = k
      · subst e; rw [hr]; simp
      · rw [show decide (i < k + 1) = decide (i < k) from decide_eq_decide.mpr (by omega)])⟩
    refine ⟨fun q => absurd q (ge_no hk (by omega)), fun _ => ⟨fun q => keep ?_, fun q => ⟨vp_in_nI (by omega) (by omega), fun q2 => keep ?_, fun q2 v ev => go _ _ ⟨nI_1 k, ?_⟩⟩⟩⟩
    · have : D k = true := by simpa using q
      unfold rdy; rw [this]; simp
    · cases hr : rdy n a od pl D k with
      | false => rfl
      | true =>
        refine absurd (fun i hi => ?_) q2
        unfold rdy at hr
        simp only [Bool.and_eq_true, List.all_eq_true, List.mem_range, Bool.or_eq_true, Bool.not_eq_true', decide_eq_false_iff_not] at hr
        by_cases h1 : i < n
        · rcases hr.2 i h1 with h2 | h2
          · simp [h2]
          · simp [h2]
        · simp [h1]
    · rw [ev]
      apply mk_ext
      intro i _
      by_cases e : i = k
      · subst e
        have hr : rdy n a od pl D i = true := by
          unfold rdy
          simp only [Bool.and_eq_true, List.all_eq_true, List.mem_range, Bool.or_eq_true, Bool.not_eq_true', decide_eq_false_iff_not, decide_eq_true_eq]
          refine ⟨⟨hk, q⟩, fun w hw => ?_⟩
          have := q2 w (by omega)
          by_cases h1 : par n a od (pl w) = pl i
          · refine Or.inr ?_
            simpa [hw, h1] using this
          · exact Or.inl h1
        rw [hr]; simp
      · rw [show decide (i < k + 1) = decide (i < k) from decide_eq_decide.mpr (by omega)]
        simp [e]
  · rintro x y X ⟨rfl, rfl⟩
    unfold PL_allowed_5b
    dsimp only
    refine ⟨fun _ => ?_, fun q => absurd (nI_le (Nat.le_refl n) (by omega)) q⟩
    rw [show mk (fun u => decide (u < n) && rdy n a od pl D u) = mk (rdy n a od pl D) from mk_ext (fun i _ => by unfold rdy; cases decide (i < n) <;> simp)]
    exact hK
theorem Ht_le (i : Nat) : Ht n a od i ≤ n := ht_le n a od n i
theorem t_highest (hn : n ≤ 24) (ho : Perm n od pl) (xr : XR n od pl I) (hh : ∀ i, i < n → I 61 (od i) = nI (Ht n a od i)) (A : Nat → Bool) (hA : bst n a od A n < n) {K : Int32 → Prop} (hK : K (nI (od (bst n a od A n)))) : PL_highest (mk A) 30 55 I K := by
  unfold PL_highest PL_highest_8
  refine lp_n3 n (fun k x y z => z = nI k ∧ ((bst n a od A k = n ∧ x = 0 ∧ y = -1) ∨ (bst n a od A k < n ∧ x = nI (od (bst n a od A k)) ∧ y = nI (Ht n a od (bst n a od A k))))) ?_ ?_ (Nat.zero_le _) ⟨rfl, Or.inl ⟨rfl, rfl, rfl⟩⟩
  · rintro k x y z X hk ⟨rfl, hx⟩ go
    have hkn := (ho k hk).1
    unfold PL_highest_8b
    dsimp only
    simp only [jrs]
    rw [xr.1, clamp (by omega), (xr.2 k hk).1]
    refine ⟨fun q => absurd q (ge_no hk (by omega)), fun _ => ⟨vp_in_nI (by omega) (by omega), fun v6 e6 => ?_⟩⟩
    subst e6
    have hH := Ht_le (n := n) (a := a) (od := od) k
    have hv : vp_in (nI (od k)) 24 := vp_in_nI (by omega) (by omega)
    rw [mk_tst1 _ (by omega), clamp (by omega), hh k hk]
    have keep : bst n a od A (k + 1) = bst n a od A k → X (x, y, nI k + 1) := fun e => go _ _ _ ⟨nI_1 k, by rw [e]; exact hx⟩
    have new : bst n a od A (k + 1) = k → X (nI (od k), nI (Ht n a od k), nI k + 1) := fun e => go _ _ _ ⟨nI_1 k, by rw [e]; exact Or.inr ⟨hk, rfl, rfl⟩⟩
    refine ⟨fun q => keep ?_, fun q => ⟨hv, fun q2 => keep ?_, fun q2 => ⟨hv, fun v4 e4 => ?_⟩⟩⟩
    · have : A (od k) = false := by simpa using q
      show (if _ then _ else _) = _
      rw [this, if_neg (by simp)]
    · show (if _ then _ else _) = _
      rcases hx with ⟨e, -, ey⟩ | ⟨e, -, ey⟩
      · exfalso
        rw [ey, Int32.le_iff_toInt_le, nI_toInt (by omega)] at q2
        have : (-1 : Int32).toInt = -1 := by decide
        omega
      · have hH2 := Ht_le (n := n) (a := a) (od := od) (bst n a od A k)
        rw [ey, nI_leI (by omega) (by omega)] at q2
        rw [decide_eq_false (show ¬ bst n a od A k = n by omega), decide_eq_false (by omega)]
        simp
    · rw [e4]
      apply new
      show (if _ then _ else _) = _
      rcases hx with ⟨e, -, ey⟩ | ⟨e, -, ey⟩
      · rw [q, e]; simp
      · have hH2 := Ht_le (n := n) (a := a) (od := od) (bst n a od A k)
        rw [ey, nI_leI (by omega) (by omega)] at q2
        rw [q, decide_eq_true (show Ht n a od (bst n a od A k) < Ht n a od k by omega)]
        simp
  · rintro x y z X ⟨rfl, hx⟩
    unfold PL_highest_8b
    dsimp only
    rw [xr.1]
    refine ⟨fun _ => ?_, fun q => absurd (nI_le (Nat.le_refl n) (by omega)) q⟩
    rcases hx with ⟨e, -, -⟩ | ⟨-, e, -⟩
    · omega
    · rw [e]; exact hK
theorem t_planX (hn : n ≤ 24) (hs : ∀ u w, u < n → w < n → a u w < p ∧ a u w = a w u) (ho : Perm n od pl) (xr : XR n od pl I) (hht : ∀ i, i < n → I 61 (od i) = nI (Ht n a od i)) (hch : ∀ u, u < n → I 62 u = mk (fun w => decide (w < n) && decide (par n a od (pl w) = pl u))) {h : Nat} (h1 : 1 ≤ h) (h24 : h ≤ 24) {K : Int32 → jM → Prop} (hK : ∀ J : jM, (∀ x, x ≠ 98 → J x = I x) → (∀ u, u < n → J 98 u = nI ((PD n a od pl h (Tend n a od pl h)).2 u)) → K (nI (Tend n a od pl h)) J) : PL_reckon 97 (nI h) 30 55 I K := by
  unfold PL_reckon PL_reckon_16
  intro v4 e4
  rw [xr.1, mk_all n hn] at e4
  subst e4
  have hT := Tend_le n a od pl h
  have xrJ : ∀ J : jM, (∀ x, x ≠ 98 → J x = I x) → XR n od pl J := fun J hJ => xr.fr (fun c _ _ => hJ c (by omega))
  have full : ∀ D : Nat → Bool, (∀ u, D u = true → u < n) → (mk D = mk (fun i => decide (i < n)) ↔ fb_ct D n = n) := fun D hD => by
    rw [fb_ct_all]
    constructor
    · intro e k hk
      have := mk_inj e k (by omega)
      rw [this]; simpa using hk
    · intro e
      apply mk_ext
      intro i _
      by_cases hi : i < n
      · rw [e i hi]; simp [hi]
      · cases hq : D i with
        | true => exact absurd (hD i hq) hi
        | false => simp [hi]
  refine lp_n3 (Tend n a od pl h) (fun t x y (J : jM) => x = mk (PD n a od pl h t).1 ∧ y = nI t ∧ (∀ x, x ≠ 98 → J x = I x) ∧ ∀ u, (PD n a od pl h t).1 u = true → J 98 u = nI ((PD n a od pl h t).2 u)) ?_ ?_ (Nat.zero_le _) ⟨mk_nil.symm, rfl, fun _ _ => rfl, fun u hu => by cases hu⟩
  · rintro t x y J X ht ⟨rfl, rfl, j1, j2⟩ go
    have hno := Tend_no ho ht
    have hPD := PD_ok (n := n) (a := a) ho h t
    unfold PL_reckon_16b
    dsimp only
    rw [j1 30 (by omega), xr.1, full _ (fun u hu => (hPD u hu).1)]
    refine ⟨fun q => absurd q (ge_no (by omega) (by omega)), fun _ => ⟨fun q => absurd q (by omega), fun _ => t_allowed hn ho (fun u hu => by rw [j1 62 (by omega)]; exact hch u hu) _ ?_⟩⟩
    unfold PL_reckon_47
    obtain ⟨s0, hs0⟩ : ∃ s0, s0 = (rdy n a od pl (PD n a od pl h t).1, (PD n a od pl h t).1, (PD n a od pl h t).2) := ⟨_, rfl⟩
    have hfin : (PD n a od pl h (t + 1)) = (pIt n a od t h s0).2 := by rw [hs0]; rfl
    have hpok : ∀ k, Pok n (rdy n a od pl (PD n a od pl h t).1) (PD n a od pl h t).1 t (pIt n a od t k s0) := fun k => by rw [hs0]; exact pIt_ok ho hPD (fun u hu => rdy_no hu) k
    refine lp_n4 h (fun k x y z (J : jM) => x = mk (pIt n a od t k s0).2.1 ∧ y = mk (pIt n a od t k s0).1 ∧ z = nI k ∧ (∀ x, x ≠ 98 → J x = I x) ∧ ∀ u, (pIt n a od t k s0).2.1 u = true → J 98 u = nI ((pIt n a od t k s0).2.2 u)) ?_ ?_ (Nat.zero_le _) ⟨by rw [hs0]; rfl, by rw [hs0]; rfl, rfl, j1, by rw [hs0]; exact j2⟩
    · rintro k x y z J2 X2 hk ⟨rfl, rfl, rfl, m1, m2⟩ go2
      unfold PL_reckon_47b
      dsimp only
      simp only [jrs]
      have hz : mk (pIt n a od t k s0).1 = 0 ↔ ¬ bst n a od (pIt n a od t k s0).1 n < n := by
        rw [mk_zero]
        have hA : ∀ u, (pIt n a od t k s0).1 u = true → u < n := fun u hu => by
          rw [(hpok k).1 u, Bool.and_eq_true] at hu
          have := hu.1
          unfold rdy at this
          simp only [Bool.and_eq_true, decide_eq_true_eq] at this
          exact this.1.1
        rcases bst_spec (n := n) (a := a) (od := od) (pIt n a od t k s0).1 n (Nat.le_refl n) with ⟨e, e2⟩ | ⟨e, e2⟩
        · refine ⟨fun _ => by omega, fun _ i hi => ?_⟩
          cases hq : (pIt n a od t k s0).1 i with
          | false => rfl
          | true =>
            have hin := hA i hq
            have := e2 (pl i) (ho i hin).2.2.1
            rw [(ho i hin).2.2.2, hq] at this; cases this
        · refine ⟨fun q => ?_, fun q => absurd e q⟩
          rw [q _ (by have := (ho _ e).1; omega)] at e2; cases e2
      rw [hz]
      refine ⟨fun q => absurd q (ge_no hk (by omega)), fun _ => ⟨fun q => go _ _ _ ⟨?_, nI_1 t, m1, ?_⟩, fun q => ?_⟩⟩
      · rw [hfin, show h = k + (h - k) by omega, pIt_none q]
      · rw [hfin, show h = k + (h - k) by omega, pIt_none q]; exact m2
      · have hb : bst n a od (pIt n a od t k s0).1 n < n := Classical.not_not.mp q
        have hu := (ho _ hb).1
        refine t_highest hn ho (xrJ J2 m1) (fun i hi => by rw [m1 61 (by omega)]; exact hht i hi) _ hb ⟨vp_in_nI (by omega) (by omega), fun I2 f2 v7 e7 v5 e5 => go2 _ _ _ _ ?_⟩
        rw [clamp (by omega)] at f2
        rw [mk_one (by omega), mk_diff] at e7
        rw [mk_one (by omega), mk_or] at e5
        have hst : pIt n a od t (k + 1) s0 = (fun x => (pIt n a od t k s0).1 x && !decide (x = od (bst n a od (pIt n a od t k s0).1 n)), fun x => (pIt n a od t k s0).2.1 x || decide (x = od (bst n a od (pIt n a od t k s0).1 n)), fun x => if x = od (bst n a od (pIt n a od t k s0).1 n) then t else (pIt n a od t k s0).2.2 x) := by
          show pst n a od t (pIt n a od t k s0) = _
          unfold pst
          rw [if_pos hb]
        rw [hst]
        refine ⟨e5, e7, nI_1 k, fun x hx => by rw [f2, jwr_ne hx]; exact m1 x hx, fun u hu2 => ?_⟩
        dsimp only at hu2 ⊢
        rw [f2, jwr_at]
        by_cases e : u = od (bst n a od (pIt n a od t k s0).1 n)
        · rw [if_pos ⟨rfl, e⟩, if_pos e]
        · rw [if_neg (fun hh => e hh.2), if_neg e]
          exact m2 u (by simpa [e] using hu2)
    · rintro x y z J2 X2 ⟨rfl, rfl, rfl, m1, m2⟩
      unfold PL_reckon_47b
      dsimp only
      exact ⟨fun _ => go _ _ _ ⟨by rw [hfin], nI_1 t, m1, by rw [hfin]; exact m2⟩, fun q => absurd (nI_le (Nat.le_refl h) (by omega)) q⟩
  · rintro x y J X ⟨rfl, rfl, j1, j2⟩
    have hyes := Tend_yes hs ho h1 (pl := pl)
    have hPD := PD_ok (n := n) (a := a) ho h (Tend n a od pl h)
    unfold PL_reckon_16b
    dsimp only
    rw [j1 30 (by omega), xr.1, full _ (fun u hu => (hPD u hu).1)]
    have fin : K (nI (Tend n a od pl h)) J := hK J j1 (fun u hu => j2 u (fb_ct_all.mp hyes u hu))
    exact ⟨fun _ => fin, fun _ => ⟨fun _ => fin, fun q => absurd hyes q⟩⟩
end PLN
