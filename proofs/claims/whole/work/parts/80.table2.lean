theorem m2_eq : (-2 : Int32) = -nI 2 := by decide
theorem m4_eq : (-4 : Int32) = -nI 4 := by decide
theorem m6_eq : (-6 : Int32) = -nI 6 := by decide
theorem tM_tableP {I : jM} {n p : Nat} (hp : 2 ≤ p) (hp2 : p ≤ 32749) {K : Int32 → jM → Prop} (h1 : isP p → MD_table_77 100 0 (jwr (jwr I 100 0 (nI n)) 100 1 (nI p)) K) (h0 : ¬ isP p → K (-2) (jwr I 105 2 (I 105 2 + 1))) : MD_table_39 100 (nI n) (nI p) 2 I K := by
  unfold MD_table_39
  refine lp_i (fun s : Int32 => ∃ d, s = nI d ∧ 2 ≤ d ∧ d ≤ 200 ∧ ∀ e, 2 ≤ e → e < d → p % e ≠ 0) (fun s => 200 - s.toNatClampNeg) ?_ ⟨2, rfl, by omega, by omega, fun e h1 h2 => by omega⟩
  rintro s X ⟨d, rfl, hd, hd2, hpre⟩ ih
  have hdd : d * d ≤ 200 * 200 := Nat.mul_le_mul hd2 hd2
  have hr := pk_rem (a := p) (d := d) (by omega) (by omega) (by omega)
  unfold MD_table_39b
  rw [pk_mul, hr]
  refine ⟨fun q I1 e1 I2 e2 => ?_, fun q => ⟨nI_ne0 (by omega) (by omega), fun q2 => ?_, fun q2 => tM_refuse (k := 2) (by omega) (by omega) m2_eq (h0 (fun hP => ?_))⟩⟩
  · have q3 : p < d * d := (nI_ltI (by omega) (by omega)).mp q
    rw [e2, e1]
    refine h1 ⟨hp, fun e he hee => hpre e he ?_⟩
    apply Nat.lt_of_not_le
    intro hc
    have := Nat.mul_le_mul hc hc
    omega
  · have q3 : ¬ p < d * d := fun hh => q ((nI_ltI (by omega) (by omega)).mpr hh)
    have hd3 : d < 200 := by
      apply Nat.lt_of_not_le
      intro hc
      have := Nat.mul_le_mul hc hc
      omega
    have hm : p % d ≠ 0 := fun e => q2 (by rw [e]; rfl)
    rw [show nI d + 1 = nI (d + 1) from nI_1 d]
    refine ih _ ⟨d + 1, rfl, by omega, by omega, fun e h1 h2 => ?_⟩ ?_
    · by_cases he : e = d
      · subst he; exact hm
      · exact hpre e h1 (by omega)
    · rw [clamp (by omega), clamp (by omega)]; omega
  · have q3 : ¬ p < d * d := fun hh => q ((nI_ltI (by omega) (by omega)).mpr hh)
    have hml := Nat.mod_lt p (show 0 < d by omega)
    exact hP.2 d hd (by omega) ((nI_eq (by omega) (by omega)).mp q2)
/-- table(n, p) -/
theorem law_table {IX IM : jM} (h : RR IX IM) (a1 a2 a3 : Int32) : lawN_0 RR IX IM a1 a2 a3 := by
  obtain ⟨n0, p0, a0, hd0, od0, pl0, sd0, gn0, wd0, -, -, -, -, -, -, -, -, -, -, -, -, hc⟩ := id h
  unfold lawN_0 OO_table OO_table_10 OO_table_30
  have r4 : ∀ K : Int32 → jM → Prop, K (-4) (jwr IM 105 4 (IM 105 4 + 1)) → MD_table_10 100 IM K := fun K hK => by
    unfold MD_table_10; exact tM_refuse (k := 4) (by omega) (by omega) m4_eq hK
  have r6 : ∀ K : Int32 → jM → Prop, K (-6) (jwr IM 105 6 (IM 105 6 + 1)) → MD_table_30 100 IM K := fun K hK => by
    unfold MD_table_30; exact tM_refuse (k := 6) (by omega) (by omega) m6_eq hK
  refine ⟨fun q1 => tX_refuse (k := 4) (by omega) (by omega) m4_eq ?_, fun q1 => ⟨fun q2 => ⟨fun q3 => tX_refuse (k := 6) (by omega) (by omega) m6_eq ?_, fun q3 => ⟨fun q4 => ?_, fun q4 => tX_refuse (k := 6) (by omega) (by omega) m6_eq ?_⟩⟩, fun q2 => tX_refuse (k := 4) (by omega) (by omega) m4_eq ?_⟩⟩
  · exact ⟨fun _ => r4 _ ⟨rfl, h.refuse 4 (by omega) (by omega)⟩, fun q => absurd q1 q⟩
  · exact ⟨fun q => absurd q q1, fun _ => ⟨fun _ => ⟨fun _ => r6 _ ⟨rfl, h.refuse 6 (by omega) (by omega)⟩, fun q => absurd q3 q⟩, fun q => absurd q2 q⟩⟩
  · have hn0 : ¬ a1 < 0 := fun hh => q1 (by rw [Int32.lt_iff_toInt_lt] at hh ⊢; have z0 : (0 : Int32).toInt = 0 := rfl; have z1 : (1 : Int32).toInt = 1 := rfl; omega)
    obtain ⟨n, hn, rfl⟩ := nI_of hn0
    have hp0 : ¬ a2 < 0 := fun hh => by
      rw [Int32.lt_iff_toInt_lt] at hh
      rw [Int32.le_iff_toInt_le] at q2
      have z0 : (0 : Int32).toInt = 0 := rfl
      have z2 : (2 : Int32).toInt = 2 := rfl
      omega
    obtain ⟨p, hp, rfl⟩ := nI_of hp0
    have hn1 : 1 ≤ n := Nat.le_of_not_lt (fun hh => q1 (nI_lt (a := n) (b := 1) hh (by omega)))
    have hn24 : n ≤ 24 := Nat.le_of_not_lt (fun hh => q3 (nI_lt (a := 24) hh hn))
    have hp2 : 2 ≤ p := (nI_leI (a := 2) (by omega) hp).mp q2
    have hpm : p ≤ 32749 := (nI_leI (b := 32749) hp (by omega)).mp q4
    have model : ∀ K : Int32 → jM → Prop, MD_table_39 100 (nI n) (nI p) 2 IM K → MD_table 100 (nI n) (nI p) IM K := fun K hK => ⟨fun q => absurd q q1, fun _ => ⟨fun _ => ⟨fun q => absurd q q3, fun _ => ⟨fun _ => hK, fun q => absurd q4 q⟩⟩, fun q => absurd q2 q⟩⟩
    refine t_isPrime hp2 hpm (fun hP => ⟨fun _ => t_startAnew hn24 (fun JX e99 xt xr x9 x10 xg w4 w5 => ?_), fun q => absurd q (by decide)⟩) (fun hP => ⟨fun q => absurd rfl q, fun _ => tX_refuse (k := 2) (by omega) (by omega) m2_eq (model _ (tM_tableP hp2 hpm (fun hh => absurd hh hP) (fun _ => ⟨rfl, h.refuse 2 (by omega) (by omega)⟩)))⟩)
    refine model _ (tM_tableP hp2 hpm (fun _ => ?_) (fun hh => absurd hP hh))
    refine tM_tableTail hn24 (n := n) (p := p) (by rw [jwr_at, if_neg (by omega), jwr_at, if_pos ⟨rfl, rfl⟩]) (by rw [jwr_at, if_pos ⟨rfl, rfl⟩]) hp2 (fun JM e105 mt mr mg m8 m9 m13 => ⟨rfl, ?_⟩)
    refine rr_num (IX := IX) (IM := IM) (n := n) (p := p) (a := fun _ _ => 0) (hd := fun _ => false) (OKs.fresh hn1 hn24 hpm hP) xt xr x9 x10 xg w4 w5 mt mr mg m8 m9 m13 (fun k h1 h6 => ?_)
    rw [e99, e105, jwr_ne (by omega), jwr_ne (by omega)]
    exact hc k h1 h6
  · exact ⟨fun q => absurd q q1, fun _ => ⟨fun _ => ⟨fun q => absurd q q3, fun _ => ⟨fun q => absurd q q4, fun _ => r6 _ ⟨rfl, h.refuse 6 (by omega) (by omega)⟩⟩⟩, fun q => absurd q2 q⟩⟩
  · exact ⟨fun q => absurd q q1, fun _ => ⟨fun q => absurd q q2, fun _ => r4 _ ⟨rfl, h.refuse 4 (by omega) (by omega)⟩⟩⟩
theorem isP_top : isP 32749 := by
  refine ⟨by decide, fun d hd hdd => ?_⟩
  have h1 : d < 181 := by
    apply Nat.lt_of_not_le
    intro hc
    have := Nat.mul_le_mul hc hc
    omega
  exact (by decide +kernel : ∀ d, d < 181 → 2 ≤ d → 32749 % d ≠ 0) d h1 hd
/-- the fresh objects agree -/
theorem fresh_ok : OO_startAnew 0 1 32749 jI0 (fun IX => RR IX jI0) := by
  show OO_startAnew 0 (nI 1) (nI 32749) jI0 (fun IX => RR IX jI0)
  have z : ∀ c, c ≠ 100 → 99 ≤ c → c ≤ 117 → ∀ k, jI0 c k = 0 := by
    intro c h1 h2 h3 k
    have hk : jk c = 1000 ∨ jk c = 1001 := (by decide +kernel : ∀ c, c ≤ 117 → c ≠ 100 → 99 ≤ c → jk c = 1000 ∨ jk c = 1001) c h3 h1 h2
    unfold jI0
    rcases hk with hk | hk <;> simp [hk]
  have hm : ∀ k, jI0 100 k = if k = 0 then 1 else if k = 1 then 32749 else if k = 13 then -1 else if k = 19 then -9 else 0 := by
    intro k
    have hk : jk 100 = 11 := by decide +kernel
    unfold jI0
    simp only [hk]
    by_cases h0 : k = 0
    · subst h0; decide
    · by_cases h1 : k = 1
      · subst h1; decide
      · by_cases h2 : k = 13
        · subst h2; decide
        · by_cases h3 : k = 19
          · subst h3; decide
          · simp [h0, h1, h2, h3]
  refine t_startAnew (by decide) (fun JX e99 xt xr x9 x10 xg w4 w5 => ?_)
  refine rr_num (IX := JX) (IM := JX) (n := 1) (p := 1) (a := fun _ _ => 0) (hd := fun _ => false) (OKs.fresh (by decide) (by decide) (by decide) isP_top) xt xr x9 x10 xg w4 w5 ⟨by rw [hm]; rfl, by rw [hm]; rfl, fun u w hu hw => by rw [z 101 (by omega) (by omega) (by omega)]; rfl, fun u hu => by rw [z 102 (by omega) (by omega) (by omega)]; rfl, fun u hu => by rw [z 104 (by omega) (by omega) (by omega)]; rfl⟩ (fun i hi => by rw [z 103 (by omega) (by omega) (by omega)]; rw [show i = 0 by omega]; rfl) ⟨by rw [hm]; rfl, fun k hk => by simp at hk, fun u hu => ?_, fun k hk => by simp at hk⟩ (by rw [hm]; rfl) (by rw [hm]; rfl) (by rw [hm]; rfl) (fun k h1 h6 => by rw [e99, z 99 (by omega) (by omega) (by omega), z 105 (by omega) (by omega) (by omega)])
  rw [z 113 (by omega) (by omega) (by omega), ← mk_nil]
  exact mk_ext (fun i _ => (adj_zero 1 u i).symm)
