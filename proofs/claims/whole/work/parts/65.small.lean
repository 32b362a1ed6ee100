/-! ===== the state of the game: what both sides hold ===== -/
/-- u and w are JOINED -/
def adj (n : Nat) (a : Nat → Nat → Nat) (u w : Nat) : Bool := decide (u < n) && decide (w < n) && !decide (u = w) && !decide (a u w = 0)
theorem jwr_at (I : jM) (i k : Nat) (v : Int32) (c j : Nat) : jwr I i k v c j = if c = i ∧ j = k then v else I c j := by
  unfold jwr upd
  by_cases h : c = i
  · subst h; by_cases h2 : j = k <;> simp [h2]
  · simp [h]
theorem nI_lt_iff {x : Int32} {n : Nat} (hn : n < 2 ^ 31) : (¬ x < 0 ∧ x < nI n) ↔ ∃ u, u < n ∧ x = nI u := by
  constructor
  · rintro ⟨h0, h1⟩
    obtain ⟨j, hj, rfl⟩ := nI_of h0
    exact ⟨j, (nI_ltI hj hn).mp h1, rfl⟩
  · rintro ⟨u, hu, rfl⟩
    exact ⟨nI_pos (by omega), nI_lt hu hn⟩
theorem clamp {u : Nat} (h : u < 2 ^ 31) : (nI u).toNatClampNeg = u := nI_clamp h
/-- who is no UNKNOWN, or which UNKNOWN it is -/
theorem who (x : Int32) {n : Nat} (hn : n ≤ 24) : (∃ u, u < n ∧ x = nI u) ∨ (¬ ∃ u, u < n ∧ x = nI u) ∧ (x < 0 ∨ ¬ x < nI n) := by
  by_cases h : ∃ u, u < n ∧ x = nI u
  · exact Or.inl h
  · refine Or.inr ⟨h, ?_⟩
    rw [← nI_lt_iff (by omega)] at h
    by_cases h0 : x < 0
    · exact Or.inl h0
    · exact Or.inr (fun h1 => h ⟨h0, h1⟩)
theorem tX_isNobody_no {I : jM} {n u : Nat} (hn : n ≤ 24) (h4 : I 1 4 = nI n) (hu : u < n) {K : Int32 → Prop} (h : K 0) : OO_isNobody 0 (nI u) I K := by
  unfold OO_isNobody
  simp only [jrs]
  rw [h4]
  exact ⟨fun q => absurd q (nI_pos (by omega)), fun _ => ⟨fun _ => h, fun q => absurd (nI_lt hu (by omega)) q⟩⟩
theorem tX_isNobody_yes {I : jM} {n : Nat} {x : Int32} (h4 : I 1 4 = nI n) (hx : x < 0 ∨ ¬ x < nI n) {K : Int32 → Prop} (h : K 1) : OO_isNobody 0 x I K := by
  unfold OO_isNobody
  simp only [jrs]
  rw [h4]
  refine ⟨fun _ => h, fun q => ⟨fun q2 => ?_, fun _ => h⟩⟩
  rcases hx with hx | hx
  · exact absurd hx q
  · exact absurd q2 hx
theorem tX_refuse {I : jM} {k : Nat} (h1 : 1 ≤ k) (h6 : k ≤ 6) {v : Int32} (hv : v = -nI k) {K : Int32 → jM → Prop} (h : K v (jwr I 99 k (I 99 k + 1))) : OO_refuse 0 v I K := by
  unfold OO_refuse
  simp only [jrs]
  intro x hx
  have ex : x = nI k := by rw [hx, hv, Int32.neg_neg]
  have ec : x.toNatClampNeg = k := by rw [ex]; exact nI_clamp (by omega)
  rw [ec]
  refine ⟨fun q => absurd q (by rw [ex]; exact nI_nle (by omega) (by omega)), fun _ => ⟨fun q => absurd q (by rw [ex]; exact nI_ge (a := k) (b := 7) (by omega) (by omega)), fun _ => ⟨by rw [ex]; exact vp_in_nI (by omega) (by omega), by rw [ex]; exact vp_in_nI (by omega) (by omega), fun I2 e2 => ?_⟩⟩⟩
  rw [e2]
  exact h
theorem tM_in_yes {I : jM} {x lo hi : Int32} (h1 : ¬ x < lo) (h2 : ¬ hi < x) {K : Int32 → Prop} (h : K 1) : MD_in x lo hi I K := ⟨fun q => absurd q h1, fun _ => ⟨fun q => absurd q h2, fun _ => h⟩⟩
theorem tM_in_no {I : jM} {x lo hi : Int32} (hx : x < lo ∨ hi < x) {K : Int32 → Prop} (h : K 0) : MD_in x lo hi I K := ⟨fun _ => h, fun q1 => ⟨fun _ => h, fun q2 => hx.elim (fun q => absurd q q1) (fun q => absurd q q2)⟩⟩
theorem tM_refuse {I : jM} {k : Nat} (h1 : 1 ≤ k) (h6 : k ≤ 6) {v : Int32} (hv : v = -nI k) {K : Int32 → jM → Prop} (h : K v (jwr I 105 k (I 105 k + 1))) : MD_refuse 100 v I K := by
  unfold MD_refuse
  simp only [jrs]
  have ex : -v = nI k := by rw [hv, Int32.neg_neg]
  have ec : (-v).toNatClampNeg = k := by rw [ex]; exact nI_clamp (by omega)
  have hi : vp_in (-v) 7 := by rw [ex]; exact vp_in_nI (by omega) (by omega)
  rw [ec]
  exact ⟨hi, hi, fun I2 e2 => by rw [e2]; exact h⟩
theorem tM_isUnknown_yes {I : jM} {n u : Nat} (hn : n ≤ 24) (h0 : I 100 0 = nI n) (hu : u < n) {K : Int32 → Prop} (h : K 1) : MD_isUnknown 100 (nI u) I K := by
  unfold MD_isUnknown
  rw [h0, show (1 : Int32) = nI 1 from rfl, pk_sub (by omega)]
  exact tM_in_yes (nI_pos (by omega)) (nI_nlt (by omega) (by omega)) ⟨rfl, h⟩
theorem tM_isUnknown_no {I : jM} {n : Nat} {x : Int32} (hn : 1 ≤ n) (hn2 : n ≤ 24) (h0 : I 100 0 = nI n) (hx : x < 0 ∨ ¬ x < nI n) {K : Int32 → Prop} (h : K 0) : MD_isUnknown 100 x I K := by
  unfold MD_isUnknown
  rw [h0, show (1 : Int32) = nI 1 from rfl, pk_sub (by omega)]
  refine tM_in_no ?_ ⟨rfl, h⟩
  rcases hx with hx | hx
  · exact Or.inl hx
  · refine Or.inr ?_
    rw [Int32.lt_iff_toInt_lt, nI_toInt (by omega)]
    rw [Int32.lt_iff_toInt_lt, nI_toInt (by omega)] at hx
    omega
