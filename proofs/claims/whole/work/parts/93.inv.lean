/-! ===== inverses ===== -/
theorem sh1 {e : Nat} (he : e < 2 ^ 31) : nI e >>> ((1 : Int32) &&& 31) = nI (e / 2) := b_ext (fun i hi => by
  rw [show (1 : Int32) = nI 1 from rfl, b_sshr 1 (by omega) _ hi, bt_nI (by omega), bt_nI (by omega), bt_nI (by omega)]
  have h2 : (e / 2).testBit i = e.testBit (1 + i) := by rw [Nat.add_comm, Nat.testBit_succ]
  rw [h2]
  by_cases h : 1 + i < 32
  · rw [if_pos h]
  · rw [if_neg h, Nat.testBit_lt_two_pow he, Nat.testBit_lt_two_pow (Nat.lt_of_lt_of_le he (Nat.pow_le_pow_right (by decide) (by omega)))])
theorem and1 {e : Nat} (he : e < 2 ^ 31) : (nI e &&& 1 = 1) ↔ e % 2 = 1 := by
  rw [pk_andN (by omega) 1 (by decide), show (1 : Int32) = nI 1 from rfl, nI_eq (by omega) (by omega)]
theorem sq_step {p r s e : Nat} : (e % 2 = 1 → r * s ^ e % p = (r * s % p) * (s * s % p) ^ (e / 2) % p) ∧ (¬ e % 2 = 1 → r * s ^ e % p = r * (s * s % p) ^ (e / 2) % p) := by
  have h2 : ∀ k, (s * s % p) ^ k % p = s ^ (2 * k) % p := fun k => by
    rw [← Nat.pow_mod, Nat.pow_mul, Nat.pow_two]
  constructor
  · intro h
    rw [Nat.mul_mod (r * s % p), h2, Nat.mod_mod, ← Nat.mul_mod, Nat.mul_assoc]
    congr 2
    rw [← Nat.pow_succ']
    congr 1; omega
  · intro h
    rw [Nat.mul_mod r ((s * s % p) ^ (e / 2)), h2, ← Nat.mul_mod]
    congr 3; omega
theorem t_inverse {I : jM} {p d : Nat} (hp : 2 ≤ p) (hp2 : p ≤ 32749) (e : I 2 0 = nI p) (hd : d < p) {K : Int32 → Prop} (h : K (nI (iv p d))) : MO_inverse 2 (nI d) I K := by
  unfold MO_inverse
  rw [e, show (2 : Int32) = nI 2 from rfl, pk_sub (by omega)]
  intro v4 e4
  subst e4
  unfold MO_inverse_12
  intro X hX
  have key : ∀ f m r s, m ≤ f → m < 2 ^ 31 → r < p → s < p → r * s ^ m % p = d ^ (p - 2) % p → X (nI r, nI s, nI m) := by
    intro f
    induction f with
    | zero =>
      intro m r s hm hm2 hr hs hI
      have : m = 0 := by omega
      subst this
      apply hX
      unfold MO_inverse_12b
      refine ⟨fun _ => ⟨fun q => ?_, fun q => ?_⟩, fun q => absurd (show (nI 0 : Int32) ≤ 0 by decide) q⟩
      · have hd0 : d ≠ 0 := fun hh => q (by rw [hh]; rfl)
        unfold iv at h
        rw [if_neg hd0, ← hI, Nat.pow_zero, Nat.mul_one, Nat.mod_eq_of_lt hr] at h
        exact h
      · have hd0 : d = 0 := (nI_eq (by omega) (by omega)).mp q
        unfold iv at h
        rw [if_pos hd0] at h
        exact h
    | succ f ih =>
      intro m r s hm hm2 hr hs hI
      rcases Nat.eq_zero_or_pos m with h0 | h0
      · exact ih m r s (by omega) hm2 hr hs hI
      · apply hX
        unfold MO_inverse_12b MO_inverse_32
        rw [and1 hm2]
        refine ⟨fun q => absurd q (nI_nle h0 hm2), fun _ => ⟨fun q => ?_, fun q => ?_⟩⟩
        · refine t_times hp hp2 e hs hs (fun v ev => ?_)
          rw [ev, sh1 hm2]
          refine ih (m / 2) r (s * s % p) (by omega) (by omega) hr (Nat.mod_lt _ (by omega)) ?_
          rw [← sq_step.2 q]; exact hI
        · refine t_times hp hp2 e hr hs (t_times hp hp2 e hs hs (fun v ev => ?_))
          rw [ev, sh1 hm2]
          refine ih (m / 2) (r * s % p) (s * s % p) (by omega) (by omega) (Nat.mod_lt _ (by omega)) (Nat.mod_lt _ (by omega)) ?_
          rw [← sq_step.1 q]; exact hI
  exact key (p - 2) (p - 2) 1 d (Nat.le_refl _) (by omega) (by omega) hd (by rw [Nat.one_mul])
theorem lNz {p : Nat} (hp : 0 < p) (hp2 : p < 2 ^ 31) : ¬ lN p = 0 := fun q => by
  have := congrArg Int64.toInt q
  rw [lN_toInt hp2] at this
  have h0 : (0 : Int64).toInt = 0 := rfl
  omega
theorem tM_inverse {I : jM} {p d : Nat} (hp : 2 ≤ p) (hp2 : p ≤ 32749) (e : I 100 1 = nI p) (hd : d < p) (hd0 : 0 < d) {K : Int32 → Prop} (h : K (nI (iv p d))) : MD_inverse 100 (nI d) I K := by
  unfold MD_inverse
  rw [e, show (2 : Int32) = nI 2 from rfl, pk_sub (by omega), nI_l (by omega)]
  intro v4 e4
  subst e4
  unfold MD_inverse_14
  have eP : (nI p).toInt64 = lN p := nI_l (by omega)
  have hm : ∀ x y, x < p → y < p → x * y < 2 ^ 31 := fun x y hx hy => Nat.lt_of_le_of_lt (Nat.mul_le_mul (show x ≤ 32749 by omega) (show y ≤ 32749 by omega)) (by decide)
  intro X hX
  have key : ∀ f m r s, m ≤ f → m < 2 ^ 31 → r < p → s < p → r * s ^ m % p = d ^ (p - 2) % p → X (lN r, lN s, nI m) := by
    intro f
    induction f with
    | zero =>
      intro m r s hm hm2 hr hs hI
      have : m = 0 := by omega
      subst this
      apply hX
      unfold MD_inverse_14b
      dsimp only
      rw [e, eP]
      refine ⟨fun _ => ⟨lNz (by omega) (by omega), ?_⟩, fun q => absurd (by decide) q⟩
      rw [pk_lRem (by omega) (by omega) (by omega), lN_i]
      unfold iv at h
      rw [if_neg (by omega), ← hI, Nat.pow_zero, Nat.mul_one] at h
      exact h
    | succ f ih =>
      intro m r s hm' hm2 hr hs hI
      rcases Nat.eq_zero_or_pos m with h0 | h0
      · exact ih m r s (by omega) hm2 hr hs hI
      · apply hX
        unfold MD_inverse_14b MD_inverse_41
        dsimp only
        rw [e, eP, and1 hm2, lN_mul, lN_mul]
        have h1 := hm s s hs hs
        have h2 := hm r s hr hs
        have hz := lNz (show 0 < p by omega) (by omega)
        rw [pk_lRem (a := s * s) (by omega) (by omega) (by omega)]
        refine ⟨fun q => absurd q (nI_nle h0 hm2), fun _ => ⟨fun q => ⟨hz, fun w ew v ev => ?_⟩, fun q => ⟨hz, hz, fun w ew v ev => ?_⟩⟩⟩
        · rw [ev, ew, sh1 hm2]
          refine ih (m / 2) r (s * s % p) (by omega) (by omega) hr (Nat.mod_lt _ (by omega)) ?_
          rw [← sq_step.2 q]; exact hI
        · rw [ev, ew, sh1 hm2, pk_lRem (a := r * s) (b := p) (by omega) (by omega) (by omega)]
          refine ih (m / 2) (r * s % p) (s * s % p) (by omega) (by omega) (Nat.mod_lt _ (by omega)) (Nat.mod_lt _ (by omega)) ?_
          rw [← sq_step.1 q]; exact hI
  exact key (p - 2) (p - 2) 1 d (Nat.le_refl _) (by omega) (by omega) hd (by rw [Nat.one_mul])
