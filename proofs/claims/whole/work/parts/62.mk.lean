/-! ===== masks of UNKNOWNS: mk f has bit i just when f i, for i < 24 ===== -/
def mkN (f : Nat → Bool) : Nat → Nat
  | 0 => 0
  | k + 1 => mkN f k + (if f k then 2 ^ k else 0)
theorem mkN_lt (f : Nat → Bool) : ∀ k, mkN f k < 2 ^ k
  | 0 => by simp [mkN]
  | k + 1 => by
    have h := mkN_lt f k
    unfold mkN
    rw [Nat.pow_succ]
    split <;> omega
theorem mkN_bit (f : Nat → Bool) : ∀ k i, (mkN f k).testBit i = (decide (i < k) && f i)
  | 0, i => by simp [mkN]
  | k + 1, i => by
    have ih := mkN_bit f k i
    have hl := mkN_lt f k
    unfold mkN
    by_cases hf : f k = true
    · rw [if_pos hf, Nat.add_comm]
      rcases Nat.lt_trichotomy i k with h | h | h
      · rw [Nat.testBit_two_pow_add_gt h, ih]
        simp [h, Nat.lt_succ_of_lt h]
      · subst h
        rw [Nat.testBit_two_pow_add_eq, Nat.testBit_lt_two_pow hl]
        simp [hf]
      · rw [Nat.testBit_lt_two_pow (Nat.lt_of_lt_of_le (show 2 ^ k + mkN f k < 2 ^ (k + 1) by rw [Nat.pow_succ]; omega) (Nat.pow_le_pow_right (by decide) h))]
        simp [show ¬ i < k + 1 by omega]
    · rw [if_neg hf, Nat.add_zero, ih]
      by_cases h : i = k
      · subst h
        simp [hf]
      · rw [show (decide (i < k + 1)) = decide (i < k) from decide_eq_decide.mpr (by omega)]
def mk (f : Nat → Bool) : Int32 := nI (mkN f 24)
theorem bt_nI {n : Nat} (h : n < 2 ^ 32) (i : Nat) : bt (nI n) i = n.testBit i := by
  unfold bt nI
  rw [Int32.toBitVec_ofNat', BitVec.getLsbD_ofNat]
  by_cases hi : i < 32
  · simp [hi]
  · simp [hi]
    rw [Nat.testBit_lt_two_pow (Nat.lt_of_lt_of_le h (Nat.pow_le_pow_right (by decide) (by omega)))]
theorem mk_bt (f : Nat → Bool) (i : Nat) : bt (mk f) i = (decide (i < 24) && f i) := by
  unfold mk
  rw [bt_nI (Nat.lt_of_lt_of_le (mkN_lt f 24) (by decide)), mkN_bit]
theorem mk_ext {f g : Nat → Bool} (h : ∀ i, i < 24 → f i = g i) : mk f = mk g := b_ext (fun i _ => by
  rw [mk_bt, mk_bt]
  by_cases hi : i < 24
  · rw [h i hi]
  · simp [hi])
theorem mk_inj {f g : Nat → Bool} (h : mk f = mk g) : ∀ i, i < 24 → f i = g i := fun i hi => by
  have h2 := congrArg (fun x => bt x i) h
  simp only [mk_bt] at h2
  simpa [hi] using h2
theorem mk_and (f g : Nat → Bool) : mk f &&& mk g = mk (fun i => f i && g i) := b_ext (fun i _ => by
  rw [b_and, mk_bt, mk_bt, mk_bt]; cases decide (i < 24) <;> simp)
theorem mk_or (f g : Nat → Bool) : mk f ||| mk g = mk (fun i => f i || g i) := b_ext (fun i _ => by
  rw [b_or, mk_bt, mk_bt, mk_bt]; cases decide (i < 24) <;> simp)
theorem mk_xor (f g : Nat → Bool) : mk f ^^^ mk g = mk (fun i => f i ^^ g i) := b_ext (fun i _ => by
  rw [b_xor, mk_bt, mk_bt, mk_bt]; cases decide (i < 24) <;> simp)
theorem b_not (x : Int32) {i : Nat} (hi : i < 32) : bt (x ^^^ (-1)) i = !bt x i := by rw [b_xor, b_m1 i hi]; simp
theorem mk_diff (f g : Nat → Bool) : mk f &&& (mk g ^^^ (-1)) = mk (fun i => f i && !g i) := b_ext (fun i hi => by
  rw [b_and, b_not _ hi, mk_bt, mk_bt, mk_bt]; cases decide (i < 24) <;> simp [Bool.and_comm])
theorem mk_ndiff (f g : Nat → Bool) : (mk g ^^^ (-1)) &&& mk f = mk (fun i => f i && !g i) := b_ext (fun i hi => by
  rw [b_and, b_not _ hi, mk_bt, mk_bt, mk_bt]; cases decide (i < 24) <;> simp [Bool.and_comm])
theorem bt_1 (i : Nat) : bt 1 i = decide (i = 0) := by
  by_cases h : i < 32
  · exact (by decide +kernel : ∀ i, i < 32 → bt 1 i = decide (i = 0)) i h
  · rw [b_big (by omega), decide_eq_false (by omega)]
theorem mk_one {w : Nat} (hw : w < 24) : (1 : Int32) <<< (nI w &&& 31) = mk (fun i => decide (i = w)) := b_ext (fun i hi => by
  rw [b_shl w (by omega) _ hi, mk_bt, bt_1]
  by_cases h : i = w
  · subst h; simp [hw]
  · by_cases h2 : w ≤ i
    · simp [h, h2, show ¬ i - w = 0 by omega]
    · simp [h, h2])
theorem mk_tst (f : Nat → Bool) {w : Nat} (hw : w < 24) : (mk f >>> (nI w &&& 31)) &&& 1 = if f w then 1 else 0 := b_ext (fun i hi => by
  rw [b_and, b_sshr w (by omega) _ hi, bt_1]
  by_cases h0 : i = 0
  · subst h0
    rw [if_pos (by omega), mk_bt]
    cases hf : f w <;> simp [hf, hw, bt_1, b_0]
  · rw [decide_eq_false h0, Bool.and_false]
    cases hf : f w <;> simp [h0, bt_1, b_0])
theorem mk_tst1 (f : Nat → Bool) {w : Nat} (hw : w < 24) : ((mk f >>> (nI w &&& 31)) &&& 1 = 1) ↔ f w = true := by
  rw [mk_tst f hw]; cases f w <;> decide
theorem mk_tst0 (f : Nat → Bool) {w : Nat} (hw : w < 24) : ((mk f >>> (nI w &&& 31)) &&& 1 = 0) ↔ f w = false := by
  rw [mk_tst f hw]; cases f w <;> decide
theorem mk_nil : mk (fun _ => false) = 0 := by decide +kernel
theorem mk_zero {f : Nat → Bool} : mk f = 0 ↔ ∀ i, i < 24 → f i = false := by
  rw [← mk_nil]
  exact ⟨mk_inj, mk_ext⟩
theorem mk_all : ∀ n, n ≤ 24 → (1 : Int32) <<< (nI n &&& 31) - 1 = mk (fun i => decide (i < n)) := by decide +kernel
theorem mk_nat (f : Nat → Bool) : ∃ m, m < 2 ^ 24 ∧ mk f = nI m ∧ ∀ i, m.testBit i = (decide (i < 24) && f i) := ⟨mkN f 24, mkN_lt f 24, rfl, mkN_bit f 24⟩
theorem mk_pos (f : Nat → Bool) : ¬ mk f < 0 := nI_pos (Nat.lt_of_lt_of_le (mkN_lt f 24) (by decide))
