/-! ===== counting loops; the class's nets ===== -/
theorem lp_n {σ : Type} {F : (σ → Prop) → σ → Prop} (n : Nat) (V : Nat → σ → Prop) (hs : ∀ (k : Nat) (s : σ) (X : σ → Prop), k < n → V k s → (∀ s', V (k + 1) s' → X s') → F X s) (he : ∀ (s : σ) (X : σ → Prop), V n s → F X s) {k0 : Nat} {s : σ} (hk : k0 ≤ n) (h0 : V k0 s) : lp F s := by
  intro X hX
  have key : ∀ d k s, n - k = d → k ≤ n → V k s → X s := by
    intro d
    induction d with
    | zero => intro k s hd hk hv; exact hX s (he s X ((show k = n by omega) ▸ hv))
    | succ d ih => intro k s hd hk hv; exact hX s (hs k s X (by omega) hv (fun s' hv' => ih (k + 1) s' (by omega) (by omega) hv'))
  exact key _ k0 s rfl hk h0
theorem lp_n2 {α β : Type} {F : (α × β → Prop) → α × β → Prop} (n : Nat) (V : Nat → α → β → Prop) (hs : ∀ (k : Nat) (x : α) (y : β) (X : α × β → Prop), k < n → V k x y → (∀ x' y', V (k + 1) x' y' → X (x', y')) → F X (x, y)) (he : ∀ (x : α) (y : β) (X : α × β → Prop), V n x y → F X (x, y)) {k0 : Nat} {x : α} {y : β} (hk : k0 ≤ n) (h0 : V k0 x y) : lp F (x, y) := lp_n n (fun k s => V k s.1 s.2) (fun k s X hk hv go => hs k s.1 s.2 X hk hv (fun x' y' h => go (x', y') h)) (fun s X hv => he s.1 s.2 X hv) hk h0
theorem lp_n3 {α β γ : Type} {F : (α × β × γ → Prop) → α × β × γ → Prop} (n : Nat) (V : Nat → α → β → γ → Prop) (hs : ∀ (k : Nat) (x : α) (y : β) (z : γ) (X : α × β × γ → Prop), k < n → V k x y z → (∀ x' y' z', V (k + 1) x' y' z' → X (x', y', z')) → F X (x, y, z)) (he : ∀ (x : α) (y : β) (z : γ) (X : α × β × γ → Prop), V n x y z → F X (x, y, z)) {k0 : Nat} {x : α} {y : β} {z : γ} (hk : k0 ≤ n) (h0 : V k0 x y z) : lp F (x, y, z) := lp_n n (fun k s => V k s.1 s.2.1 s.2.2) (fun k s X hk hv go => hs k s.1 s.2.1 s.2.2 X hk hv (fun x' y' z' h => go (x', y', z') h)) (fun s X hv => he s.1 s.2.1 s.2.2 X hv) hk h0
theorem ge_no {k n : Nat} (h : k < n) (hn : n < 2 ^ 31) : ¬ nI n ≤ nI k := nI_ge h hn
/-- a good net: about those that live, both ways, nobody with himself -/
def GG (n : Nat) (lv : Nat → Bool) (g : Gr) : Prop := ∀ x y, g x y = true → x < n ∧ y < n ∧ lv x = true ∧ lv y = true ∧ x ≠ y ∧ g y x = true
theorem gg_adj {n p : Nat} {a : Nat → Nat → Nat} (hs : ∀ u w, u < n → w < n → a u w < p ∧ a u w = a w u) : GG n (fun _ => true) (adj n a) := by
  intro x y h
  unfold adj at *
  simp only [Bool.and_eq_true, decide_eq_true_eq, Bool.not_eq_true', decide_eq_false_iff_not] at h ⊢
  obtain ⟨⟨⟨h1, h2⟩, h3⟩, h4⟩ := h
  exact ⟨h1, h2, trivial, trivial, h3, ⟨⟨h2, h1⟩, fun e => h3 e.symm⟩, by rw [← (hs x y h1 h2).2]; exact h4⟩
theorem GG.symm {n : Nat} {lv : Nat → Bool} {g : Gr} (h : GG n lv g) (x y : Nat) : g x y = g y x := by
  cases h1 : g x y with
  | true => exact (h x y h1).2.2.2.2.2.symm
  | false =>
    cases h2 : g y x with
    | true => rw [(h y x h2).2.2.2.2.2] at h1; cases h1
    | false => rfl
theorem gg_el {n : Nat} {lv : Nat → Bool} {g : Gr} (h : GG n lv g) (u : Nat) : GG n (fun x => lv x && !decide (x = u)) (el g u) := by
  intro x y hxy
  have hs := h.symm
  unfold el at hxy ⊢
  simp only [Bool.and_eq_true, Bool.not_eq_true', decide_eq_false_iff_not, Bool.or_eq_true] at hxy ⊢
  obtain ⟨⟨⟨h1, h2⟩, h3⟩, h4⟩ := hxy
  rcases h4 with h4 | ⟨h4, h5⟩
  · obtain ⟨q1, q2, q3, q4, q5, q6⟩ := h x y h4
    exact ⟨q1, q2, ⟨q3, h1⟩, ⟨q4, h2⟩, h3, ⟨⟨h2, h1⟩, fun e => h3 e.symm⟩, Or.inl q6⟩
  · exact ⟨(h u x h4).2.1, (h u y h5).2.1, ⟨(h u x h4).2.2.2.1, h1⟩, ⟨(h u y h5).2.2.2.1, h2⟩, h3, ⟨⟨h2, h1⟩, fun e => h3 e.symm⟩, Or.inr ⟨h5, h4⟩⟩
/-- the net object at cell h, its rows in cell c -/
def NK (h c n : Nat) (lv : Nat → Bool) (g : Gr) (I : jM) : Prop := I h 2 = nI n ∧ I h 1 = mk (fun u => decide (u < n) && lv u) ∧ ∀ u, u < n → lv u = true → I c u = mk (g u)
def okh (h c : Nat) : Prop := jr h 0 = c ∧ 30 < h ∧ 30 < c ∧ h ≠ c ∧ jl c = 24
theorem t_take {n p : Nat} {a : Nat → Nat → Nat} {hd : Nat → Bool} {sd : Nat → Nat} {I : jM} {h c : Nat} (hh : okh h c) (hn : n ≤ 24) (xt : XT n p a hd sd I) {K : jM → Prop} (hK : ∀ J : jM, (∀ x, x ≠ h → x ≠ c → J x = I x) → (∀ k, k ≠ 1 → k ≠ 2 → J h k = I h k) → NK h c n (fun _ => true) (adj n a) J → K J) : NE_take h 1 I K := by
  obtain ⟨h1, h2, h3, h4, -⟩ := hh
  unfold NE_take NE_take_22
  intro I1 e1 I2 e2
  have hI2 : I2 h 2 = nI n ∧ I2 h 1 = mk (fun u => decide (u < n) && true) ∧ (∀ x, x ≠ h → I2 x = I x) ∧ (∀ k, k ≠ 1 → k ≠ 2 → I2 h k = I h k) := by
    have q1 : I1 h 2 = nI n := by rw [e1, jwr_at, if_pos ⟨rfl, rfl⟩]; exact xt.1
    refine ⟨?_, ?_, fun x hx => ?_, fun k hk1 hk2 => ?_⟩
    · rw [e2, jwr_at, if_neg (by omega)]; exact q1
    · rw [e2, jwr_at, if_pos ⟨rfl, rfl⟩, q1, mk_all n hn]
      exact mk_ext (fun i _ => by simp)
    · rw [e2, e1, jwr_ne hx, jwr_ne hx]
    · rw [e2, e1, jwr_at, if_neg (by omega), jwr_at, if_neg (by omega)]
  refine lp_n2 n (fun k v J => v = nI k ∧ J h = I2 h ∧ (∀ x, x ≠ h → x ≠ c → J x = I x) ∧ ∀ u, u < k → J c u = mk (adj n a u)) ?_ ?_ (Nat.zero_le n) ⟨rfl, rfl, fun x hx _ => hI2.2.2.1 x hx, fun u hu => absurd hu (Nat.not_lt_zero u)⟩
  · rintro k v J X hk ⟨rfl, j1, j2, j3⟩ go
    unfold NE_take_22b
    simp only [j1, hI2.1, h1]
    refine ⟨fun q => absurd q (ge_no hk (by omega)), fun _ => ⟨vp_in_nI (by omega) (by omega), vp_in_nI (by omega) (by omega), fun J1 f1 => go _ _ ⟨nI_1 k, ?_, fun x hx hc => ?_, fun u hu => ?_⟩⟩⟩
    · rw [f1, jwr_ne h4]; exact j1
    · rw [f1, jwr_ne hc]; exact j2 x hx hc
    · rw [f1, clamp (by omega), jwr_at]
      by_cases e : u = k
      · subst e
        rw [if_pos ⟨rfl, rfl⟩, show jr 1 2 = 28 by decide +kernel, j2 28 (by omega) (by omega)]
        exact xt.2.2.2.1 u hk
      · rw [if_neg (by omega)]
        exact j3 u (by omega)
  · rintro v J X ⟨rfl, j1, j2, j3⟩
    unfold NE_take_22b
    simp only [j1, hI2.1]
    refine ⟨fun _ => hK J j2 (fun k q1 q2 => by rw [j1]; exact hI2.2.2.2 k q1 q2) ⟨by rw [j1]; exact hI2.1, by rw [j1]; exact hI2.2.1, fun u hu _ => j3 u hu⟩, fun q => absurd (nI_le (Nat.le_refl n) (by omega)) q⟩
theorem t_has {I : jM} {h c n u : Nat} {lv : Nat → Bool} {g : Gr} (nk : NK h c n lv g I) (hu : u < n) (hn : n ≤ 24) {K : Int32 → Prop} (hK : K (if lv u then 1 else 0)) : NE_has h (nI u) I K := by
  unfold NE_has
  rw [nk.2.1, mk_tst1 _ (by omega)]
  cases hh : lv u <;> simp [hh, hu] at hK ⊢ <;> exact hK
theorem ms_term {g : Gr} {n u w : Nat} {lv : Nat → Bool} (hg : GG n lv g) : ct (fun i => (g u i && !g w i) && !decide (i = w)) = ct (fun y => g u y && !g w y && !decide (y = w)) := rfl
theorem t_missing {I : jM} {h c n u : Nat} {lv : Nat → Bool} {g : Gr} (hh : okh h c) (nk : NK h c n lv g I) (hg : GG n lv g) (hu : u < n) (hl : lv u = true) (hn : n ≤ 24) {K : Int32 → Prop} (hK : K (nI (ms g u))) : NE_missing h (nI u) I K := by
  obtain ⟨h1, h2, h3, h4, -⟩ := hh
  unfold NE_missing NE_missing_12
  refine ⟨vp_in_nI (by omega) (by omega), fun v ev => ?_⟩
  rw [h1, clamp (by omega), nk.2.2 u hu hl] at ev
  subst ev
  have hb : ∀ k, fb_sm (fun w => if g u w then ct (fun y => g u y && !g w y && !decide (y = w)) else 0) k ≤ k * 24 := fun k => fb_sm_bound (fun w _ => by
    split
    · exact ct_le _
    · exact Nat.zero_le _)
  have hz : ∀ d, fb_sm (fun w => if g u w then ct (fun y => g u y && !g w y && !decide (y = w)) else 0) (n + d) = fb_sm (fun w => if g u w then ct (fun y => g u y && !g w y && !decide (y = w)) else 0) n := by
    intro d
    induction d with
    | zero => rfl
    | succ d ih =>
      rw [← Nat.add_assoc, fb_sm_succ, ih]
      have : g u (n + d) = false := by
        cases hq : g u (n + d) with
        | true => exact absurd (hg u (n + d) hq).2.1 (by omega)
        | false => rfl
      rw [this]; rfl
  refine lp_n2 n (fun k x y => y = nI k ∧ x = nI (fb_sm (fun w => if g u w then ct (fun y => g u y && !g w y && !decide (y = w)) else 0) k)) ?_ ?_ (Nat.zero_le n) ⟨rfl, rfl⟩
  · rintro k v3 v4 X hk ⟨rfl, rfl⟩ go
    unfold NE_missing_12b
    simp only [nk.1, h1]
    refine ⟨fun q => absurd q (ge_no hk (by omega)), fun _ => ?_⟩
    rw [mk_tst1 _ (by omega)]
    refine ⟨fun q => go _ _ ⟨nI_1 k, ?_⟩, fun q => ⟨vp_in_nI (by omega) (by omega), ?_⟩⟩
    · rw [fb_sm_succ, if_neg q]; rfl
    · have hlk := (hg u k q).2.2.2.1
      rw [clamp (by omega), nk.2.2 k hk hlk, mk_diff, mk_one (by omega), mk_diff]
      refine t_bitCount _ _ _ (fun v e => go _ _ ⟨nI_1 k, ?_⟩)
      rw [e, nI_add, fb_sm_succ, if_pos q]
  · rintro v3 v4 X ⟨rfl, rfl⟩
    unfold NE_missing_12b
    simp only [nk.1]
    refine ⟨fun _ => ?_, fun q => absurd (nI_le (Nat.le_refl n) (by omega)) q⟩
    have hbn := hb n
    rw [show (2 : Int32) = nI 2 from rfl, pk_div (by omega) (by decide) (by decide)]
    have e := hz (24 - n)
    rw [show n + (24 - n) = 24 by omega] at e
    unfold ms at hK
    rw [e] at hK
    exact hK
