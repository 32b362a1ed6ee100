/-! ===== how many bits: Integer.bitCount and the reference's own loop ===== -/
def ct (f : Nat → Bool) : Nat := fb_ct f 24
theorem ct_le (f : Nat → Bool) : ct f ≤ 24 := fb_ct_le f 24
theorem ct_cong {f g : Nat → Bool} (h : ∀ i, i < 24 → f i = g i) : ct f = ct g := fb_ct_cong h
theorem land_split {x r : Nat} (k y s : Nat) (hx : x < 2 ^ k) (hr : r < 2 ^ k) : (x + 2 ^ k * y) &&& (r + 2 ^ k * s) = (x &&& r) + 2 ^ k * (y &&& s) := by
  apply Nat.eq_of_testBit_eq
  intro j
  have hxr : x &&& r < 2 ^ k := Nat.and_lt_two_pow _ hr
  rw [Nat.testBit_and, Nat.add_comm x, Nat.add_comm r, Nat.add_comm (x &&& r), Nat.testBit_two_pow_mul_add _ hx, Nat.testBit_two_pow_mul_add _ hr, Nat.testBit_two_pow_mul_add _ hxr]
  split
  · rw [Nat.testBit_and]
  · rw [Nat.testBit_and]
def pc1 (m : Nat) : Nat := m - (m / 2 &&& 1431655765)
def pc2 (m : Nat) : Nat := (m &&& 858993459) + (m / 4 &&& 858993459)
def pc3 (m : Nat) : Nat := (m + m / 16) &&& 252645135
theorem pc1_small : ∀ a, a < 256 → (a / 2 &&& 85) ≤ a ∧ a - (a / 2 &&& 85) < 256 := by decide +kernel
theorem pc1_top : ∀ a, a < 256 → ∀ r, r < 2 → (a / 2 + 128 * r) &&& 85 = a / 2 &&& 85 := by decide +kernel
theorem pc2_top : ∀ a, a < 256 → ∀ r, r < 4 → (a / 4 + 64 * r) &&& 51 = a / 4 &&& 51 := by decide +kernel
/-- one byte off the low end, with masks of a byte's period -/
theorem pc1_step {a : Nat} (q M : Nat) (ha : a < 256) (hq : (q / 2 &&& M) ≤ q) : (a + 256 * q) - ((a + 256 * q) / 2 &&& (85 + 256 * M)) = (a - (a / 2 &&& 85)) + 256 * (q - (q / 2 &&& M)) := by
  have e1 : (a + 256 * q) / 2 = (a / 2 + 128 * (q % 2)) + 256 * (q / 2) := by omega
  have h1 : a / 2 + 128 * (q % 2) < 2 ^ 8 := by omega
  have e2 := land_split (x := a / 2 + 128 * (q % 2)) (r := 85) 8 (q / 2) M h1 (by decide)
  rw [show (2 : Nat) ^ 8 = 256 from rfl] at e2
  rw [e1, e2, pc1_top a ha (q % 2) (Nat.mod_lt _ (by decide))]
  have h2 := (pc1_small a ha).1
  omega
theorem pc2_step {a : Nat} (q M : Nat) (ha : a < 256) : ((a + 256 * q) &&& (51 + 256 * M)) + ((a + 256 * q) / 4 &&& (51 + 256 * M)) = ((a &&& 51) + (a / 4 &&& 51)) + 256 * ((q &&& M) + (q / 4 &&& M)) := by
  have e0 := land_split (x := a) (r := 51) 8 q M ha (by decide)
  have e1 : (a + 256 * q) / 4 = (a / 4 + 64 * (q % 4)) + 256 * (q / 4) := by omega
  have h1 : a / 4 + 64 * (q % 4) < 2 ^ 8 := by omega
  have e2 := land_split (x := a / 4 + 64 * (q % 4)) (r := 51) 8 (q / 4) M h1 (by decide)
  rw [show (2 : Nat) ^ 8 = 256 from rfl] at e0 e2
  rw [e0, e1, e2, pc2_top a ha (q % 4) (Nat.mod_lt _ (by decide))]
  omega
theorem pc3_small : ∀ a, a < 256 → (a % 16 ≤ 4) → (a / 16 ≤ 4) → ∀ r, r < 5 → (a + (a / 16 + 16 * r)) < 256 ∧ ((a + (a / 16 + 16 * r)) &&& 15) = ((a + a / 16) &&& 15) := by decide +kernel
theorem pc3_step {a : Nat} (q M : Nat) (ha : a < 256) (h1 : a % 16 ≤ 4) (h2 : a / 16 ≤ 4) (hq : q % 16 ≤ 4) : ((a + 256 * q) + (a + 256 * q) / 16) &&& (15 + 256 * M) = ((a + a / 16) &&& 15) + 256 * ((q + q / 16) &&& M) := by
  have e1 : (a + 256 * q) + (a + 256 * q) / 16 = (a + (a / 16 + 16 * (q % 16))) + 256 * (q + q / 16) := by omega
  obtain ⟨h3, h4⟩ := pc3_small a ha h1 h2 (q % 16) (by omega)
  have e2 := land_split (x := a + (a / 16 + 16 * (q % 16))) (r := 15) 8 (q + q / 16) M h3 (by decide)
  rw [show (2 : Nat) ^ 8 = 256 from rfl] at e2
  rw [e1, e2, h4]
/-- a byte's own steps -/
def by1 (a : Nat) : Nat := a - (a / 2 &&& 85)
def by2 (a : Nat) : Nat := (by1 a &&& 51) + (by1 a / 4 &&& 51)
def by3 (a : Nat) : Nat := (by2 a + by2 a / 16) &&& 15
theorem by_all : ∀ a, a < 256 → by1 a < 256 ∧ by2 a < 256 ∧ by2 a % 16 ≤ 4 ∧ by2 a / 16 ≤ 4 ∧ by3 a = fb_ct a.testBit 8 := by decide +kernel
theorem pc_bytes {a b c : Nat} (ha : a < 256) (hb : b < 256) (hc : c < 256) : pc3 (pc2 (pc1 (a + 256 * (b + 256 * c)))) = by3 a + 256 * (by3 b + 256 * by3 c) := by
  obtain ⟨a1, a2, a3, a4, -⟩ := by_all a ha
  obtain ⟨b1, b2, b3, b4, -⟩ := by_all b hb
  obtain ⟨c1, c2, c3, c4, -⟩ := by_all c hc
  have m1 : (1431655765 : Nat) = 85 + 256 * (85 + 256 * (85 + 256 * 85)) := by decide
  have m2 : (858993459 : Nat) = 51 + 256 * (51 + 256 * (51 + 256 * 51)) := by decide
  have m3 : (252645135 : Nat) = 15 + 256 * (15 + 256 * (15 + 256 * 15)) := by decide
  have k1 : c / 2 &&& (85 + 256 * 85) = c / 2 &&& 85 := by
    have := land_split (x := c / 2) (r := 85) 8 0 85 (by omega) (by decide)
    simpa using this
  have s1 : pc1 (a + 256 * (b + 256 * c)) = by1 a + 256 * (by1 b + 256 * by1 c) := by
    unfold pc1
    have hc1 : (c / 2 &&& (85 + 256 * 85)) ≤ c := by rw [k1]; exact (pc1_small c hc).1
    have e2 := pc1_step (a := b) c (85 + 256 * 85) hb hc1
    have hb1 : ((b + 256 * c) / 2 &&& (85 + 256 * (85 + 256 * 85))) ≤ b + 256 * c := Nat.le_trans Nat.and_le_left (Nat.div_le_self _ _)
    have e1 := pc1_step (a := a) (b + 256 * c) (85 + 256 * (85 + 256 * 85)) ha hb1
    rw [m1, e1, e2, k1]
    rfl
  have k2 : (by1 c &&& (51 + 256 * 51)) = by1 c &&& 51 := by
    have := land_split (x := by1 c) (r := 51) 8 0 51 c1 (by decide)
    simpa using this
  have k3 : (by1 c / 4 &&& (51 + 256 * 51)) = by1 c / 4 &&& 51 := by
    have := land_split (x := by1 c / 4) (r := 51) 8 0 51 (by omega) (by decide)
    simpa using this
  have s2 : pc2 (by1 a + 256 * (by1 b + 256 * by1 c)) = by2 a + 256 * (by2 b + 256 * by2 c) := by
    unfold pc2
    rw [m2, pc2_step (a := by1 a) _ _ a1, pc2_step (a := by1 b) _ _ b1, k2, k3]
    rfl
  have k4 : ((by2 c + by2 c / 16) &&& (15 + 256 * 15)) = (by2 c + by2 c / 16) &&& 15 := by
    have := land_split (x := by2 c + by2 c / 16) (r := 15) 8 0 15 (by omega) (by decide)
    simpa using this
  have s3 : pc3 (by2 a + 256 * (by2 b + 256 * by2 c)) = by3 a + 256 * (by3 b + 256 * by3 c) := by
    unfold pc3
    rw [m3, pc3_step (a := by2 a) _ _ a2 a3 a4 (by omega), pc3_step (a := by2 b) _ _ b2 b3 b4 (by omega), k4]
    rfl
  rw [s1, s2, s3]
theorem pc_nat {m : Nat} (hm : m < 2 ^ 24) : ∃ a b c, a ≤ 8 ∧ b ≤ 8 ∧ c ≤ 8 ∧ pc3 (pc2 (pc1 m)) = a + 256 * (b + 256 * c) ∧ fb_ct m.testBit 24 = a + b + c := by
  have e : m = m % 256 + 256 * (m / 256 % 256 + 256 * (m / 65536)) := by omega
  have h0 : m % 256 < 256 := Nat.mod_lt _ (by decide)
  have h1 : m / 256 % 256 < 256 := Nat.mod_lt _ (by decide)
  have h2 : m / 65536 < 256 := by omega
  refine ⟨by3 (m % 256), by3 (m / 256 % 256), by3 (m / 65536), ?_, ?_, ?_, ?_, ?_⟩
  · rw [(by_all _ h0).2.2.2.2]; exact fb_ct_le _ 8
  · rw [(by_all _ h1).2.2.2.2]; exact fb_ct_le _ 8
  · rw [(by_all _ h2).2.2.2.2]; exact fb_ct_le _ 8
  · rw [← pc_bytes h0 h1 h2, ← e]
  · rw [(by_all _ h0).2.2.2.2, (by_all _ h1).2.2.2.2, (by_all _ h2).2.2.2.2, show (24 : Nat) = 8 + (8 + 8) from rfl, fb_ct_split, fb_ct_split, ← Nat.add_assoc]
    have t0 : fb_ct m.testBit 8 = fb_ct (m % 256).testBit 8 := fb_ct_cong (fun k hk => by
      rw [show (256 : Nat) = 2 ^ 8 from rfl, Nat.testBit_mod_two_pow]; simp [hk])
    have t1 : fb_ct (fun k => m.testBit (8 + k)) 8 = fb_ct (m / 256 % 256).testBit 8 := fb_ct_cong (fun k hk => by
      rw [show (256 : Nat) = 2 ^ 8 from rfl, Nat.testBit_mod_two_pow, Nat.testBit_div_two_pow, Nat.add_comm]; simp [hk])
    have t2 : fb_ct (fun k => m.testBit (8 + (8 + k))) 8 = fb_ct (m / 65536).testBit 8 := fb_ct_cong (fun k hk => by
      rw [show (65536 : Nat) = 2 ^ 16 from rfl, Nat.testBit_div_two_pow, show 8 + (8 + k) = k + 16 by omega])
    rw [t0, t1, t2]
theorem ush_lit {n k : Nat} (hn : n < 2 ^ 31) (hk : k < 32) : ((nI n).toUInt32 >>> ((nI k).toUInt32 &&& Int32.toUInt32 31)).toInt32 = nI (n / 2 ^ k) := pk_ushrN (by omega) (nI k) k ((by decide +kernel : ∀ k, k < 32 → (((nI k).toUInt32 &&& Int32.toUInt32 31).toBitVec % 32).toNat = k) k hk)
/-- Integer.bitCount of a mask -/
theorem t_bitCount (f : Nat → Bool) (I : jM) (K : Int32 → Prop) (h : K (nI (ct f))) : JI_bitCount (mk f) I K := by
  obtain ⟨m, hm, em, hbit⟩ := mk_nat f
  obtain ⟨a, b, c, ha, hb, hc, e3, hct⟩ := pc_nat hm
  have hcf : ct f = a + b + c := by
    rw [← hct]; exact fb_ct_cong (fun k hk => by rw [hbit k]; simp [hk])
  unfold JI_bitCount
  rw [em]
  intro x1 h1 x2 h2 x3 h3 x4 h4 x5 h5
  have g1 : x1 = nI (pc1 m) := by
    rw [h1, show (1 : Int32) = nI 1 from rfl, ush_lit (by omega) (by decide), show (1431655765 : Int32) = nI 1431655765 from rfl, fa_and, pk_sub]
    · rfl
    · exact Nat.le_trans Nat.and_le_left (Nat.div_le_self _ _)
  have l1 : pc1 m < 2 ^ 24 := Nat.lt_of_le_of_lt (Nat.sub_le _ _) hm
  have g2 : x2 = nI (pc2 (pc1 m)) := by
    rw [h2, g1, show (2 : Int32) = nI 2 from rfl, ush_lit (by omega) (by decide), show (858993459 : Int32) = nI 858993459 from rfl, fa_and, fa_and, nI_add]
    rfl
  have l2 : pc2 (pc1 m) < 2 ^ 26 := by
    have q1 : (pc1 m &&& 858993459) ≤ pc1 m := Nat.and_le_left
    have q2 : (pc1 m / 4 &&& 858993459) ≤ pc1 m / 4 := Nat.and_le_left
    unfold pc2; omega
  have g3 : x3 = nI (pc3 (pc2 (pc1 m))) := by
    rw [h3, g2, show (4 : Int32) = nI 4 from rfl, ush_lit (by omega) (by decide), show (252645135 : Int32) = nI 252645135 from rfl, nI_add, fa_and]
    rfl
  rw [e3] at g3
  have g4 : x4 = nI ((a + 256 * (b + 256 * c)) + (b + 256 * c)) := by
    rw [h4, g3, show (8 : Int32) = nI 8 from rfl, ush_lit (by omega) (by decide), nI_add]
    congr 1; omega
  have g5 : x5 = nI ((a + 256 * (b + 256 * c)) + (b + 256 * c) + c) := by
    rw [h5, g4, show (16 : Int32) = nI 16 from rfl, ush_lit (by omega) (by decide), nI_add]
    congr 1; omega
  have g6 : x5 &&& (63 : Int32) = nI (ct f) := by
    rw [g5, show (63 : Int32) = nI (2 ^ 6 - 1) from rfl, fa_mask, hcf]
    congr 1; omega
  rw [g6]
  exact h
/-- the lowest bit off -/
theorem low_off {m : Nat} (hm : 0 < m) : ∃ k, m.testBit k = true ∧ ∀ j, (m &&& (m - 1)).testBit j = (m.testBit j && !decide (j = k)) := by
  obtain ⟨k, hk, hl⟩ := pk_least (fun k => m.testBit k = true) (by
    obtain ⟨i, hi⟩ := Nat.exists_testBit_of_ne_zero (Nat.pos_iff_ne_zero.mp hm)
    exact ⟨i, hi⟩)
  refine ⟨k, hk, fun j => ?_⟩
  have hlow : m % 2 ^ k = 0 := by
    apply Nat.eq_of_testBit_eq
    intro i
    rw [Nat.testBit_mod_two_pow, Nat.zero_testBit]
    by_cases hi : i < k
    · have := hl i hi
      simp at this
      simp [this]
    · simp [hi]
  have hb : m / 2 ^ k % 2 = 1 := by
    have := hk
    rw [Nat.testBit_eq_decide_div_mod_eq] at this
    exact of_decide_eq_true this
  have hp : 0 < 2 ^ k := Nat.pow_pos (by decide)
  obtain ⟨t, ht⟩ : ∃ t, m = 2 ^ (k + 1) * t + 2 ^ k := ⟨m / 2 ^ k / 2, by
    have e1 := Nat.div_add_mod m (2 ^ k)
    have e2 := Nat.div_add_mod (m / 2 ^ k) 2
    rw [hlow, Nat.add_zero] at e1
    rw [hb] at e2
    rw [Nat.pow_succ, Nat.mul_assoc]
    rw [← e1]
    rw [Nat.mul_div_cancel_left _ hp]
    have e3 : 2 ^ k * (m / 2 ^ k) = 2 ^ k * (2 * (m / 2 ^ k / 2) + 1) := by rw [e2]
    rw [e3, Nat.mul_add, Nat.mul_one]⟩
  have hm1 : m - 1 = 2 ^ (k + 1) * t + (2 ^ k - 1) := by omega
  have hlt1 : 2 ^ k < 2 ^ (k + 1) := by rw [Nat.pow_succ]; omega
  rw [Nat.testBit_and, hm1, Nat.testBit_two_pow_mul_add _ (by omega)]
  have em : m.testBit j = if j < k + 1 then (2 ^ k).testBit j else t.testBit (j - (k + 1)) := by
    rw [ht, Nat.testBit_two_pow_mul_add _ hlt1]
  rw [em]
  by_cases h1 : j < k + 1
  · rw [if_pos h1, if_pos h1]
    by_cases h2 : j = k
    · subst h2
      simp
    · have h3 : (2 ^ k).testBit j = false := by
        rw [Nat.testBit_two_pow]; simp [Ne.symm h2]
      rw [h3]; simp
  · rw [if_neg h1, if_neg h1]
    simp [show ¬ j = k by omega]
/-- the reference's ones(), of a mask -/
theorem t_ones (f : Nat → Bool) (I : jM) (K : Int32 → Prop) (h : K (nI (ct f))) : MD_ones (mk f) I K := by
  unfold MD_ones MD_ones_4
  refine lp_i (fun s : Int32 × Int32 => ∃ (c : Nat) (g : Nat → Bool), s.1 = nI c ∧ s.2 = mk g ∧ c + ct g = ct f) (fun s => s.2.toNatClampNeg) ?_ ⟨0, f, rfl, rfl, Nat.zero_add _⟩
  rintro ⟨v1, v2⟩ X ⟨c, g, rfl, rfl, hc⟩ ih
  refine ⟨fun h0 => ?_, fun h0 v ev => ?_⟩
  · have : ct g = 0 := fb_ct_zero.mpr (mk_zero.mp h0)
    rw [show c = ct f by omega]
    exact h
  · obtain ⟨m, hm, em, hbit⟩ := mk_nat g
    have em' : mk g = nI m := em
    have hm0 : 0 < m := by
      rcases Nat.eq_zero_or_pos m with e | e
      · exact absurd (by rw [em', e]; rfl) h0
      · exact e
    obtain ⟨k, hk, hoff⟩ := low_off hm0
    have hk24 : k < 24 := by
      have := hbit k
      rw [hk] at this
      by_cases hh : k < 24
      · exact hh
      · simp [hh] at this
    have hgk : g k = true := by
      have := hbit k
      rw [hk] at this
      simpa [hk24] using this.symm
    have e1 : v = nI (m &&& (m - 1)) := by
      rw [ev]
      show mk g &&& (mk g - 1) = _
      rw [em', show (1 : Int32) = nI 1 from rfl, pk_sub (by omega), fa_and]
    have e2 : v = mk (fun i => g i && !decide (i = k)) := by
      rw [e1]
      apply b_ext
      intro i _
      have hlt : m &&& (m - 1) < 2 ^ 24 := Nat.lt_of_le_of_lt Nat.and_le_left hm
      rw [bt_nI (by omega), mk_bt, hoff, hbit]
      cases decide (i < 24) <;> simp
    refine ih (_, _) ⟨c + 1, _, nI_1 c, e2, ?_⟩ ?_
    · have := fb_ct_upd g false hk24
      rw [hgk] at this
      have e3 : ct (fun i => g i && !decide (i = k)) = fb_ct (fun j => if j = k then false else g j) 24 := fb_ct_cong (fun i _ => by
        by_cases hi : i = k
        · simp [hi]
        · simp [hi])
      rw [e3]
      have e4 : ct g = fb_ct g 24 := rfl
      simp only [↓reduceIte, Bool.false_eq_true, Nat.add_zero] at this
      omega
    · show v.toNatClampNeg < (mk g).toNatClampNeg
      have hlt : m &&& (m - 1) ≤ m - 1 := Nat.and_le_right
      rw [e1, em', nI_clamp (by omega), nI_clamp (by omega)]
      omega
