/-! ===== reckoning modulo p ===== -/
def md (p : Nat) (z : Int) : Nat := (z % (p : Int)).toNat
theorem md_lt {p : Nat} (hp : 0 < p) (z : Int) : md p z < p := by
  have h := Int.emod_lt_of_pos z (show (0 : Int) < p by omega)
  have h0 := Int.emod_nonneg z (show (p : Int) ≠ 0 by omega)
  unfold md; omega
theorem md_eq {p : Nat} (hp : 0 < p) (z : Int) : ((md p z : Nat) : Int) = z % (p : Int) := by
  have h0 := Int.emod_nonneg z (show (p : Int) ≠ 0 by omega)
  unfold md; omega
theorem md_of {p : Nat} {z r q : Int} (h0 : 0 ≤ r) (h1 : r < p) (e : z = r + (p : Int) * q) : md p z = r.toNat := by
  unfold md
  rw [e, Int.add_mul_emod_self_left, Int.emod_eq_of_lt h0 h1]
theorem md_small {p m : Nat} (h : m < p) : md p (m : Int) = m := by
  rw [md_of (r := m) (q := 0) (by omega) (by omega) (by omega)]; omega
theorem md_nat (p m : Nat) : md p (m : Int) = m % p := by
  unfold md
  rw [← Int.natCast_emod, Int.toNat_natCast]
/-- the machine's remainder: it has the sign of what is divided -/
theorem tm_cases {p : Nat} (hp : 0 < p) (x : Int) : -(p : Int) < x.tmod p ∧ x.tmod p < p ∧ (0 ≤ x → 0 ≤ x.tmod p ∧ md p x = (x.tmod p).toNat) ∧ (x < 0 → x.tmod p ≤ 0 ∧ (x.tmod p = 0 → md p x = 0) ∧ (x.tmod p ≠ 0 → md p x = (x.tmod p + p).toNat)) := by
  have hb := tmod_bounds (a := x) (show (0 : Int) < p by omega)
  have hd : x.tmod p = x - p * x.tdiv p := Int.tmod_def x p
  refine ⟨hb.1, hb.2, fun h => ?_, fun h => ?_⟩
  · have h0 : 0 ≤ x.tmod p := Int.tmod_nonneg p h
    exact ⟨h0, md_of (q := x.tdiv p) h0 hb.2 (by omega)⟩
  · have h0 : x.tmod p ≤ 0 := by
      have h1 : 0 ≤ (-x).tmod p := Int.tmod_nonneg p (by omega)
      rw [Int.neg_tmod] at h1
      omega
    refine ⟨h0, fun e => ?_, fun e => ?_⟩
    · rw [md_of (r := 0) (q := x.tdiv p) (by omega) (by omega) (by omega)]; rfl
    · exact md_of (q := x.tdiv p - 1) (by omega) (by omega) (by rw [Int.mul_sub]; omega)
theorem td_abs {p : Nat} (hp : 2 ≤ p) (x : Int) : (0 ≤ x → 0 ≤ x.tdiv p ∧ x.tdiv p ≤ x ∧ (p : Int) * x.tdiv p ≤ x) ∧ (x < 0 → x ≤ x.tdiv p ∧ x.tdiv p ≤ 0 ∧ x ≤ (p : Int) * x.tdiv p) := by
  obtain ⟨h1, h2, h3, h4⟩ := tm_cases (show 0 < p by omega) x
  have hd : x.tmod p = x - p * x.tdiv p := Int.tmod_def x p
  have hpp : (2 : Int) ≤ p := by omega
  refine ⟨fun h => ?_, fun h => ?_⟩
  · have h5 := (h3 h).1
    have h6 : 0 ≤ x.tdiv p := Int.tdiv_nonneg h (by omega)
    have h7 : x.tdiv p * 1 ≤ x.tdiv p * p := Int.mul_le_mul_of_nonneg_left (by omega) h6
    rw [Int.mul_comm (x.tdiv p) p] at h7
    omega
  · have h5 := (h4 h).1
    have h6 : x.tdiv p ≤ 0 := by
      have : 0 ≤ (-x).tdiv p := Int.tdiv_nonneg (by omega) (by omega)
      rw [Int.neg_tdiv] at this
      omega
    have h7 : -x.tdiv p * 1 ≤ -x.tdiv p * p := Int.mul_le_mul_of_nonneg_left (by omega) (by omega)
    rw [Int.neg_mul, Int.neg_mul, Int.mul_comm (x.tdiv p) p] at h7
    omega
theorem rem32 (x : Int32) {p : Nat} (hp : 2 ≤ p) (hp2 : p < 2 ^ 31) : (x - x / nI p * nI p).toInt = x.toInt.tmod p := by
  have hx := fb_rng x
  obtain ⟨h1, h2⟩ := td_abs hp x.toInt
  have hd : x.toInt.tmod p = x.toInt - p * x.toInt.tdiv p := Int.tmod_def x.toInt p
  have hpI : (nI p).toInt = p := nI_toInt hp2
  have hb : -2147483648 ≤ x.toInt.tdiv p ∧ x.toInt.tdiv p < 2147483648 ∧ -2147483648 ≤ (p : Int) * x.toInt.tdiv p ∧ (p : Int) * x.toInt.tdiv p < 2147483648 ∧ -2147483648 ≤ x.toInt - (p : Int) * x.toInt.tdiv p ∧ x.toInt - (p : Int) * x.toInt.tdiv p < 2147483648 := by
    rcases Int.lt_or_le x.toInt 0 with h | h
    · have h3 := h2 h
      have h4 : (p : Int) * x.toInt.tdiv p ≤ 0 := Int.mul_nonpos_of_nonneg_of_nonpos (by omega) h3.2.1
      omega
    · have h3 := h1 h
      have h4 : 0 ≤ (p : Int) * x.toInt.tdiv p := Int.mul_nonneg (by omega) h3.1
      omega
  have e1 : (x / nI p).toInt = x.toInt.tdiv p := by
    rw [Int32.toInt_div, hpI]
    exact fb_bmod hb.1 hb.2.1
  have em : (x / nI p).toInt * (nI p).toInt = (p : Int) * x.toInt.tdiv p := by rw [e1, hpI, Int.mul_comm]
  have e2 : (x / nI p * nI p).toInt = (p : Int) * x.toInt.tdiv p := by
    rw [fb_mulI (by rw [em]; exact hb.2.2.1) (by rw [em]; exact hb.2.2.2.1), em]
  rw [fb_subI (by rw [e2]; exact hb.2.2.2.2.1) (by rw [e2]; exact hb.2.2.2.2.2), e2, hd]
theorem rem64 (x : Int64) {p : Nat} (hp : 2 ≤ p) (hp2 : p < 2 ^ 31) : (x - x / lN p * lN p).toInt = x.toInt.tmod p := by
  have hx := fb_rngL x
  obtain ⟨h1, h2⟩ := td_abs hp x.toInt
  have hd : x.toInt.tmod p = x.toInt - p * x.toInt.tdiv p := Int.tmod_def x.toInt p
  have hpI : (lN p).toInt = p := lN_toInt hp2
  have hb : -9223372036854775808 ≤ x.toInt.tdiv p ∧ x.toInt.tdiv p < 9223372036854775808 ∧ -9223372036854775808 ≤ (p : Int) * x.toInt.tdiv p ∧ (p : Int) * x.toInt.tdiv p < 9223372036854775808 ∧ -9223372036854775808 ≤ x.toInt - (p : Int) * x.toInt.tdiv p ∧ x.toInt - (p : Int) * x.toInt.tdiv p < 9223372036854775808 := by
    rcases Int.lt_or_le x.toInt 0 with h | h
    · have h3 := h2 h
      have h4 : (p : Int) * x.toInt.tdiv p ≤ 0 := Int.mul_nonpos_of_nonneg_of_nonpos (by omega) h3.2.1
      omega
    · have h3 := h1 h
      have h4 : 0 ≤ (p : Int) * x.toInt.tdiv p := Int.mul_nonneg (by omega) h3.1
      omega
  have e1 : (x / lN p).toInt = x.toInt.tdiv p := by
    rw [Int64.toInt_div, hpI]
    exact fb_bmodL hb.1 hb.2.1
  have em : (x / lN p).toInt * (lN p).toInt = (p : Int) * x.toInt.tdiv p := by rw [e1, hpI, Int.mul_comm]
  have e2 : (x / lN p * lN p).toInt = (p : Int) * x.toInt.tdiv p := by
    rw [fb_mulL (by rw [em]; exact hb.2.2.1) (by rw [em]; exact hb.2.2.2.1), em]
  rw [fb_subL (by rw [e2]; exact hb.2.2.2.2.1) (by rw [e2]; exact hb.2.2.2.2.2), e2, hd]
theorem nI_of_toInt {x : Int32} {m : Nat} (hm : m < 2 ^ 31) (h : x.toInt = m) : x = nI m := Int32.toInt_inj.mp (by rw [h, nI_toInt hm])
theorem xor_sign (x : Int32) {p : Nat} (hp : p < 2 ^ 31) : (0 ≤ x ^^^ nI p) ↔ 0 ≤ x.toInt := by
  have hm : ∀ y : Int32, (0 ≤ y.toInt) ↔ y.toBitVec.msb = false := fun y => by
    have := BitVec.msb_eq_toInt (x := y.toBitVec)
    rw [this]
    show _ ↔ decide (y.toInt < 0) = false
    rw [decide_eq_false_iff_not]; omega
  rw [Int32.le_iff_toInt_le, Int32.toInt_zero, hm, hm, Int32.toBitVec_xor, BitVec.msb_xor]
  have hpm : (nI p).toBitVec.msb = false := (hm _).mp (by rw [nI_toInt hp]; omega)
  rw [hpm, Bool.xor_false]
/-- Math.floorMod(x, p) -/
theorem t_floorMod (x : Int32) {p : Nat} (hp : 2 ≤ p) (hp2 : p < 2 ^ 31) {I : jM} {K : Int32 → Prop} (h : K (nI (md p x.toInt))) : JM_floorMod x (nI p) I K := by
  obtain ⟨h1, h2, h3, h4⟩ := tm_cases (show 0 < p by omega) x.toInt
  have hr := rem32 x hp hp2
  unfold JM_floorMod
  refine ⟨nI_ne0 (by omega) hp2, fun v ev => ?_⟩
  have hv : v.toInt = x.toInt.tmod p := by rw [ev]; exact hr
  refine ⟨fun q => ?_, fun q => ⟨fun q2 => ?_, fun q2 => ?_⟩⟩
  · obtain ⟨h5, h6⟩ := h3 ((xor_sign x hp2).mp q)
    rw [nI_of_toInt (x := v) (m := md p x.toInt) (by omega) (by rw [hv, h6]; omega)]
    exact h
  · have hx : x.toInt < 0 := by
      apply Int.lt_of_not_ge; intro hc; exact q ((xor_sign x hp2).mpr hc)
    obtain ⟨h5, h6, h7⟩ := h4 hx
    have h8 : x.toInt.tmod p = 0 := by rw [← hv, q2]; rfl
    rw [nI_of_toInt (x := v) (m := md p x.toInt) (by rw [h6 h8]; omega) (by rw [hv, h6 h8, h8]; rfl)]
    exact h
  · have hx : x.toInt < 0 := by
      apply Int.lt_of_not_ge; intro hc; exact q ((xor_sign x hp2).mpr hc)
    obtain ⟨h5, h6, h7⟩ := h4 hx
    have h8 : x.toInt.tmod p ≠ 0 := fun e => q2 (Int32.toInt_inj.mp (by rw [hv, e]; rfl))
    have e9 : (v + nI p).toInt = x.toInt.tmod p + p := by
      rw [fb_addI, hv, nI_toInt hp2] <;> rw [hv, nI_toInt hp2] <;> omega
    rw [nI_of_toInt (x := v + nI p) (m := md p x.toInt) (by rw [h7 h8]; omega) (by rw [e9, h7 h8]; omega)]
    exact h
theorem t_reduce {I : jM} {p : Nat} (hp : 2 ≤ p) (hp2 : p < 2 ^ 31) (e : I 2 0 = nI p) (x : Int32) {K : Int32 → Prop} (h : K (nI (md p x.toInt))) : MO_reduce 2 x I K := by
  unfold MO_reduce
  rw [e]
  exact ⟨fun q => absurd q (nI_ge (a := 1) (by omega) hp2), fun _ => t_floorMod x hp hp2 h⟩
theorem t_times {I : jM} {p : Nat} (hp : 2 ≤ p) (hp2 : p ≤ 32749) (e : I 2 0 = nI p) {x y : Nat} (hx : x < p) (hy : y < p) {K : Int32 → Prop} (h : K (nI (x * y % p))) : MO_times 2 (nI x) (nI y) I K := by
  unfold MO_times
  have hxy : x * y < 2 ^ 31 := Nat.lt_of_le_of_lt (Nat.mul_le_mul (show x ≤ 32749 by omega) (show y ≤ 32749 by omega)) (by decide)
  refine t_reduce hp (by omega) e _ ?_
  rw [pk_mul, nI_toInt hxy, md_nat]
  exact h
theorem t_modulo {I : jM} {p : Nat} (hp : 2 ≤ p) (hp2 : p < 2 ^ 31) (e : I 100 1 = nI p) (x : Int64) {K : Int32 → Prop} (h : K (nI (md p x.toInt))) : MD_modulo 100 x I K := by
  obtain ⟨h1, h2, h3, h4⟩ := tm_cases (show 0 < p by omega) x.toInt
  have hr := rem64 x hp hp2
  have eP : (nI p).toInt64 = lN p := nI_l hp2
  unfold MD_modulo
  rw [e, eP]
  refine ⟨fun q => ?_, fun v ev => ?_⟩
  · have := congrArg Int64.toInt q
    rw [lN_toInt hp2] at this
    have h0 : (0 : Int64).toInt = 0 := rfl
    omega
  have hv : v.toInt = x.toInt.tmod p := by rw [ev]; exact hr
  have hz : (0 : Int64).toInt = 0 := rfl
  refine ⟨fun q => ?_, fun q => ?_⟩
  · rw [lg_cmp_ge, Int64.le_iff_toInt_le, hz, hv] at q
    have hm : md p x.toInt = (x.toInt.tmod p).toNat := by
      rcases Int.lt_or_le x.toInt 0 with hx | hx
      · obtain ⟨h5, h6, h7⟩ := h4 hx
        have h8 : x.toInt.tmod p = 0 := by omega
        rw [h6 h8, h8]; rfl
      · exact (h3 hx).2
    rw [nI_of_toInt (x := v.toInt32) (m := md p x.toInt) (by omega) (by
      rw [Int64.toInt_toInt32, hv, hm, fb_bmod] <;> omega)]
    exact h
  · rw [lg_cmp_ge, Int64.le_iff_toInt_le, hz, hv] at q
    have hx : x.toInt < 0 := by
      apply Int.lt_of_not_ge; intro hc; exact q (h3 hc).1
    obtain ⟨h5, h6, h7⟩ := h4 hx
    have h8 : x.toInt.tmod p ≠ 0 := by omega
    have e9 : (v + lN p).toInt = x.toInt.tmod p + p := by
      rw [fb_addL, hv, lN_toInt hp2] <;> rw [hv, lN_toInt hp2] <;> omega
    rw [nI_of_toInt (x := (v + lN p).toInt32) (m := md p x.toInt) (by rw [h7 h8]; omega) (by
      rw [Int64.toInt_toInt32, e9, h7 h8, fb_bmod] <;> omega)]
    exact h
