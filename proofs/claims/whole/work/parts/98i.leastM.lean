/-! ===== LEAST, the reference's side ===== -/
section AR
variable {n p : Nat} {a : Nat → Nat → Nat} {hd : Nat → Bool} {od pl sd : Nat → Nat} {I : jM}
theorem any_iff {n : Nat} {q : Nat → Bool} : (List.range n).any q = true ↔ ∃ w, w < n ∧ q w = true := by
  rw [List.any_eq_true]
  exact ⟨fun ⟨w, h1, h2⟩ => ⟨w, List.mem_range.mp h1, h2⟩, fun ⟨w, h1, h2⟩ => ⟨w, List.mem_range.mpr h1, h2⟩⟩
theorem any_succ (k : Nat) (q : Nat → Bool) : (List.range (k + 1)).any q = ((List.range k).any q || q k) := by
  rw [List.range_succ, List.any_append]; simp
theorem ct_less {s t : Nat → Bool} {n y : Nat} (hy : y < n) (h : ∀ k, k < n → s k = true → t k = true) (h1 : s y = false) (h2 : t y = true) : fb_ct s n < fb_ct t n := by
  have e := ct_add (D := s) hy h1
  have : fb_ct (fun x => s x || decide (x = y)) n ≤ fb_ct t n := fb_ct_sub (fun k hk hh => by
    rw [Bool.or_eq_true, decide_eq_true_eq] at hh
    rcases hh with hh | hh
    · exact h k hk hh
    · rw [hh]; exact h2)
  omega
theorem tM_arnd {m u : Nat} (hn : n ≤ 24) (hs : ∀ u w, u < n → w < n → a u w < p ∧ a u w = a w u) (hm : m < 2 ^ n) (hu : u < n) (hmu : m.testBit u = false) (h0 : I 100 0 = nI n) (h6 : ∀ w, w < n → I 106 w = mk (adj n a w)) {K : Int32 → Prop} (hK : K (mk (Hm n a m u))) : MD_around 100 (nI u) (nI m) I K := by
  have hG := gg_adj hs
  have hm24 : m < 2 ^ 24 := Nat.lt_of_lt_of_le hm (Nat.pow_le_pow_right (by decide) hn)
  have hbit : ∀ z, m.testBit z = true → z < n := fun z hz => by
    rcases Nat.lt_or_ge z n with h | h
    · exact h
    · rw [Nat.testBit_lt_two_pow (Nat.lt_of_lt_of_le hm (Nat.pow_le_pow_right (by decide) h))] at hz; cases hz
  have hub : u ∉ bitsD n m := fun h => by rw [(bitsD_mem.mp h).2] at hmu; cases hmu
  unfold MD_around
  rw [mk_one (by omega), nI_mk hm24]
  intro v3 e3 v5 e5
  subst e3 e5
  unfold MD_around_12
  intro X hX
  have key : ∀ (F : Nat) (s f r : Nat → Bool), s u = true → (∀ z, s z = true → z < n ∧ (z = u ∨ RS (adj n a) (inl (bitsD n m)) u z)) → (∀ z, r z = true → s z = true ∧ (m.testBit z = true ∨ z = u)) → (∀ z w, s z = true → (z = u ∨ m.testBit z = true) → r z = false → adj n a z w = true → s w = true) → (∀ z, f z = (s z && !m.testBit z && !decide (z = u))) → 2 * fb_ct (fun i => !s i) n + (if fb_ct r n = 0 then 0 else 1) ≤ F → X (mk s, mk f, mk r) := by
    intro F
    induction F with
    | zero =>
      intro s f r c1 c2 c3 c4 c5 hF
      have hr0 : fb_ct r n = 0 := by
        rcases Nat.eq_zero_or_pos (fb_ct r n) with h | h
        · exact h
        · rw [if_neg (by omega)] at hF; omega
      have hr : ∀ z, r z = false := fun z => by
        cases hz : r z with
        | false => rfl
        | true =>
          have := fb_ct_zero.mp hr0 z (c2 z (c3 z hz).1).1
          rw [hz] at this; cases this
      apply hX
      unfold MD_around_12b
      dsimp only
      refine ⟨fun _ => ?_, fun q => absurd (mk_zero.mpr (fun i _ => hr i)) q⟩
      rw [mk_one (by omega), mk_diff]
      have e : mk (fun i => f i && !decide (i = u)) = mk (Hm n a m u) := mk_ext (fun y _ => by
        rw [Bool.eq_iff_iff, Hm_iff hs, c5 y]
        simp only [Bool.and_eq_true, Bool.not_eq_true', decide_eq_false_iff_not]
        constructor
        · rintro ⟨⟨⟨h1, h2⟩, h3⟩, -⟩
          refine ⟨fun e => h3 e.symm, hub, fun h => absurd (bitsD_mem.mp h).2 (by rw [h2]; decide), ?_⟩
          rcases (c2 y h1).2 with h4 | h4
          · exact absurd h4 h3
          · exact h4
        · rintro ⟨h1, -, h3, h4⟩
          have hsy : s y = true := h4 (fun w => s w = true) (fun w hw => c4 u w c1 (Or.inl rfl) (hr u) hw) (fun z w hz hzl hw => c4 z w hz (Or.inr (by
            unfold inl at hzl
            exact (bitsD_mem.mp (of_decide_eq_true hzl)).2)) (hr z) hw)
          refine ⟨⟨⟨hsy, ?_⟩, fun e => h1 e.symm⟩, fun e => h1 e.symm⟩
          cases hb : m.testBit y with
          | false => rfl
          | true => exact absurd (bitsD_mem.mpr ⟨(c2 y hsy).1, hb⟩) h3)
      rw [e]; exact hK
    | succ F ih =>
      intro s f r c1 c2 c3 c4 c5 hF
      by_cases hr0 : fb_ct r n = 0
      · -- nobody is fresh: as above
        have hr : ∀ z, r z = false := fun z => by
          cases hz : r z with
          | false => rfl
          | true =>
            have := fb_ct_zero.mp hr0 z (c2 z (c3 z hz).1).1
            rw [hz] at this; cases this
        apply hX
        unfold MD_around_12b
        dsimp only
        refine ⟨fun _ => ?_, fun q => absurd (mk_zero.mpr (fun i _ => hr i)) q⟩
        rw [mk_one (by omega), mk_diff]
        have e : mk (fun i => f i && !decide (i = u)) = mk (Hm n a m u) := mk_ext (fun y _ => by
          rw [Bool.eq_iff_iff, Hm_iff hs, c5 y]
          simp only [Bool.and_eq_true, Bool.not_eq_true', decide_eq_false_iff_not]
          constructor
          · rintro ⟨⟨⟨h1, h2⟩, h3⟩, -⟩
            refine ⟨fun e => h3 e.symm, hub, fun h => absurd (bitsD_mem.mp h).2 (by rw [h2]; decide), ?_⟩
            rcases (c2 y h1).2 with h4 | h4
            · exact absurd h4 h3
            · exact h4
          · rintro ⟨h1, -, h3, h4⟩
            have hsy : s y = true := h4 (fun w => s w = true) (fun w hw => c4 u w c1 (Or.inl rfl) (hr u) hw) (fun z w hz hzl hw => c4 z w hz (Or.inr (by
              unfold inl at hzl
              exact (bitsD_mem.mp (of_decide_eq_true hzl)).2)) (hr z) hw)
            refine ⟨⟨⟨hsy, ?_⟩, fun e => h1 e.symm⟩, fun e => h1 e.symm⟩
            cases hb : m.testBit y with
            | false => rfl
            | true => exact absurd (bitsD_mem.mpr ⟨(c2 y hsy).1, hb⟩) h3)
        rw [e]; exact hK
      · apply hX
        unfold MD_around_12b
        dsimp only
        refine ⟨fun q => ?_, fun _ => ?_⟩
        · exfalso
          apply hr0
          refine fb_ct_zero.mpr (fun k hk => ?_)
          exact (mk_zero.mp q) k (by omega)
        unfold MD_around_23
        refine lp_n2 n (fun k x v => v = nI k ∧ x = mk (fun y => (List.range k).any (fun w => r w && adj n a w y))) ?_ ?_ (Nat.zero_le n) ⟨rfl, by rw [← mk_nil]; exact mk_ext (fun i _ => by simp)⟩
        · rintro k x v X2 hk ⟨rfl, rfl⟩ go
          unfold MD_around_23b
          dsimp only
          simp only [jrs]
          rw [h0, mk_tst1 _ (by omega), clamp (show k < 2 ^ 31 by omega), h6 k hk]
          refine ⟨fun q => absurd q (ge_no hk (by omega)), fun _ => ⟨fun q v6 e6 => go _ _ ⟨nI_1 k, ?_⟩, fun q => ⟨vp_in_nI (by omega) (by omega), fun v6 e6 => go _ _ ⟨nI_1 k, ?_⟩⟩⟩⟩
          · rw [e6, show (0 : Int32) = mk (fun _ => false) from mk_nil.symm, mk_or]
            apply mk_ext
            intro y _
            rw [any_succ]
            simp [show r k = false by simpa using q]
          · rw [e6, mk_or]
            apply mk_ext
            intro y _
            rw [any_succ, q]; simp
        · rintro x v X2 ⟨rfl, rfl⟩
          unfold MD_around_23b
          dsimp only
          rw [h0]
          refine ⟨fun _ v6 e6 v3 e3 v4 e4 v5 e5 => ?_, fun q => absurd (nI_le (Nat.le_refl n) (by omega)) q⟩
          rw [mk_diff] at e6
          subst e6
          rw [mk_or] at e3
          rw [mk_diff, mk_or] at e4
          rw [mk_and] at e5
          subst e3 e4 e5
          obtain ⟨N, hN⟩ : ∃ N : Nat → Bool, N = fun i => (List.range n).any (fun w => r w && adj n a w i) && !s i := ⟨_, rfl⟩
          have hNi : ∀ y, N y = true ↔ (∃ w, w < n ∧ r w = true ∧ adj n a w y = true) ∧ s y = false := fun y => by
            rw [hN]
            rw [Bool.and_eq_true, any_iff, Bool.not_eq_true']
            constructor
            · rintro ⟨⟨w, h1, h2⟩, h3⟩
              rw [Bool.and_eq_true] at h2
              exact ⟨⟨w, h1, h2.1, h2.2⟩, h3⟩
            · rintro ⟨⟨w, h1, h2, h4⟩, h3⟩
              exact ⟨⟨w, h1, by rw [h2, h4]; rfl⟩, h3⟩
          have hNe : ∀ y, ((List.range n).any (fun w => r w && adj n a w y) && !s y) = N y := fun y => by rw [hN]
          simp only [hNe]
          have rs : ∀ w y, r w = true → adj n a w y = true → RS (adj n a) (inl (bitsD n m)) u y := fun w y hw hy => by
            obtain ⟨h1, h2⟩ := c3 w hw
            rcases h2 with h2 | h2
            · rcases (c2 w h1).2 with h3 | h3
              · rw [h3] at hy; exact RS.one hy
              · exact h3.more (by unfold inl; exact decide_eq_true (bitsD_mem.mpr ⟨(c2 w h1).1, h2⟩)) hy
            · rw [h2] at hy; exact RS.one hy
          refine ih _ _ _ (by rw [c1]; rfl) (fun z hz => ?_) (fun z hz => ?_) (fun z w hz hzb hzr hzw => ?_) (fun z => ?_) ?_
          · rw [Bool.or_eq_true] at hz
            rcases hz with hz | hz
            · exact c2 z hz
            · obtain ⟨⟨w, h1, h2, h3⟩, h4⟩ := (hNi z).mp hz
              exact ⟨(hG w z h3).2.1, Or.inr (rs w z h2 h3)⟩
          · rw [Bool.and_eq_true] at hz
            exact ⟨by rw [hz.1]; simp, Or.inl hz.2⟩
          · rw [Bool.or_eq_true] at hz ⊢
            rcases hz with hz | hz
            · cases hrz : r z with
              | true =>
                cases hsw : s w with
                | true => exact Or.inl rfl
                | false => exact Or.inr ((hNi w).mpr ⟨⟨z, (c2 z hz).1, hrz, hzw⟩, hsw⟩)
              | false => exact Or.inl (c4 z w hz hzb hrz hzw)
            · rcases hzb with hzb | hzb
              · have := ((hNi z).mp hz).2
                rw [hzb, c1] at this; cases this
              · rw [hz, hzb] at hzr; cases hzr
          · rw [c5 z]
            by_cases e : z = u
            · subst e
              have : N z = false := by
                cases hh : N z with
                | false => rfl
                | true =>
                  have := ((hNi z).mp hh).2
                  rw [c1] at this; cases this
              simp [this]
            · cases s z <;> cases N z <;> cases m.testBit z <;> simp [e]
          · rw [if_neg hr0] at hF
            by_cases hex : ∃ y, y < n ∧ N y = true
            · obtain ⟨y, hy, hNy⟩ := hex
              have := ct_less (s := fun i => !(s i || N i)) (t := fun i => !s i) hy (fun k _ hk => by
                revert hk
                cases s k <;> simp) (by simp [hNy]) (by simp [((hNi y).mp hNy).2])
              split <;> omega
            · have hN0 : ∀ y, N y = false := fun y => by
                cases hh : N y with
                | false => rfl
                | true =>
                  obtain ⟨⟨w, h1, h2, h3⟩, h4⟩ := (hNi y).mp hh
                  exact absurd ⟨y, (hG w y h3).2.1, hh⟩ hex
              have e1 : fb_ct (fun i => !(s i || N i)) n = fb_ct (fun i => !s i) n := fb_ct_cong (fun k _ => by rw [hN0 k]; simp)
              have e2 : fb_ct (fun i => N i && m.testBit i) n = 0 := fb_ct_zero.mpr (fun k _ => by rw [hN0 k]; simp)
              rw [e1, if_pos e2]
              omega
  have e0 : (0 : Int32) = mk (fun _ => false) := mk_nil.symm
  rw [e0]
  refine key _ _ _ _ (by simp) (fun z hz => ?_) (fun z hz => ?_) (fun z w hz _ hr _ => ?_) (fun z => ?_) (Nat.le_refl _)
  · have : z = u := of_decide_eq_true hz
    exact ⟨by omega, Or.inl this⟩
  · exact ⟨hz, Or.inr (of_decide_eq_true hz)⟩
  · rw [hz] at hr; cases hr
  · cases decide (z = u) <;> simp
/-- what one costs, b: by FILLS -/
def cs (b : Bool) (n : Nat) (a : Nat → Nat → Nat) (m u : Nat) : Nat := if b then ms (Hm n a m) u else ct (Hm n a m u)
def jo (b : Bool) (x y : Nat) : Nat := if b then x + y else max x y
def lsb (b : Bool) (n : Nat) (a : Nat → Nat → Nat) (m : Nat) : Nat := if b then lsL n a m else lsW n a m
theorem cs_le (b : Bool) (m u : Nat) : cs b n a m u ≤ 288 := by
  unfold cs
  have := ct_le (Hm n a m u)
  have := ms_le (Hm n a m) u
  split <;> omega
theorem tM_costOf {m u : Nat} {b : Bool} (hn : n ≤ 24) (hs : ∀ u w, u < n → w < n → a u w < p ∧ a u w = a w u) (hm : m < 2 ^ n) (hu : u < n) (hmu : m.testBit u = false) (h0 : I 100 0 = nI n) (h6 : ∀ w, w < n → I 106 w = mk (adj n a w)) {K : Int32 → Prop} (hK : K (nI (cs b n a m u))) : MD_costOf 100 (nI u) (nI m) (if b then 1 else 0) I K := by
  have hGm := Hm_gg hs m
  have hlive : ∀ w, Hm n a m u w = true → w < n ∧ m.testBit w = false := fun w hw => by
    obtain ⟨-, h2, -, h4, -, -⟩ := hGm u w hw
    refine ⟨h2, ?_⟩
    cases hb : m.testBit w with
    | false => rfl
    | true =>
      have : w ∈ bitsD n m := bitsD_mem.mpr ⟨h2, hb⟩
      simp [lvL, this] at h4
  have hbd : ∀ k, fb_sm (fun w => if Hm n a m u w then ct (fun y => Hm n a m u y && !Hm n a m w y && !decide (y = w)) else 0) k ≤ k * 24 := fun k => fb_sm_bound (fun w _ => by
    split
    · exact ct_le _
    · exact Nat.zero_le _)
  have hz : ∀ d, fb_sm (fun w => if Hm n a m u w then ct (fun y => Hm n a m u y && !Hm n a m w y && !decide (y = w)) else 0) (n + d) = fb_sm (fun w => if Hm n a m u w then ct (fun y => Hm n a m u y && !Hm n a m w y && !decide (y = w)) else 0) n := by
    intro d
    induction d with
    | zero => rfl
    | succ d ih =>
      rw [← Nat.add_assoc, fb_sm_succ, ih]
      have : Hm n a m u (n + d) = false := by
        cases hq : Hm n a m u (n + d) with
        | true => exact absurd (hlive (n + d) hq).1 (by omega)
        | false => rfl
      rw [this]; rfl
  unfold MD_costOf
  refine tM_arnd hn hs hm hu hmu h0 h6 ?_
  cases b with
  | false => exact ⟨fun q => absurd rfl q, fun _ => t_ones _ _ _ hK⟩
  | true =>
    refine ⟨fun _ => ?_, fun q => absurd q (by decide)⟩
    unfold MD_costOf_24
    refine lp_n2 n (fun k x v => v = nI k ∧ x = nI (fb_sm (fun w => if Hm n a m u w then ct (fun y => Hm n a m u y && !Hm n a m w y && !decide (y = w)) else 0) k)) ?_ ?_ (Nat.zero_le n) ⟨rfl, rfl⟩
    · rintro k x v X hk ⟨rfl, rfl⟩ go
      unfold MD_costOf_24b
      dsimp only
      rw [h0, mk_tst1 _ (by omega)]
      refine ⟨fun q => absurd q (ge_no hk (by omega)), fun _ => ⟨fun q v5 e5 => go _ _ ⟨nI_1 k, ?_⟩, fun q => tM_arnd hn hs hm hk (hlive k q).2 h0 h6 ?_⟩⟩
      · rw [e5, Int32.add_zero, fb_sm_succ, if_neg q]; rfl
      · rw [mk_diff, mk_one (by omega), mk_diff]
        refine t_ones _ _ _ (fun v5 e5 => go _ _ ⟨nI_1 k, ?_⟩)
        rw [e5, nI_add, fb_sm_succ, if_pos q]
    · rintro x v X ⟨rfl, rfl⟩
      unfold MD_costOf_24b
      dsimp only
      rw [h0]
      have h24 := hbd n
      refine ⟨fun _ => ?_, fun q => absurd (nI_le (Nat.le_refl n) (by omega)) q⟩
      rw [show (2 : Int32) = nI 2 from rfl, pk_div (by omega) (by decide) (by decide)]
      have e := hz (24 - n)
      rw [show n + (24 - n) = 24 by omega] at e
      have e2 : cs true n a m u = fb_sm (fun w => if Hm n a m u w then ct (fun y => Hm n a m u y && !Hm n a m w y && !decide (y = w)) else 0) n / 2 := by
        show ms (Hm n a m) u = _
        unfold ms
        rw [e]
      rw [← e2]
      exact hK
theorem tM_joined {b : Bool} {x y : Nat} (hx : x < 2 ^ 31) (hy : y < 2 ^ 31) {K : Int32 → Prop} (hK : K (nI (jo b x y))) : MD_joined 100 (nI x) (nI y) (if b then 1 else 0) I K := by
  unfold MD_joined
  unfold jo at hK
  cases b with
  | false =>
    refine ⟨fun _ => ⟨fun q => ?_, fun q => ?_⟩, fun q => absurd rfl q⟩
    · have := (nI_leI hx hy).mp q
      have e : max x y = y := by omega
      simp only [e] at hK; exact hK
    · have : ¬ x ≤ y := fun e => q ((nI_leI hx hy).mpr e)
      have e : max x y = x := by omega
      simp only [e] at hK; exact hK
  | true =>
    refine ⟨fun q => absurd q (by decide), fun _ => ?_⟩
    rw [nI_add]; exact hK
end AR
