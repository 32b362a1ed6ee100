/-! ===== pivot, one ===== -/
theorem wkd_le (p : Nat) (b : Nat → Nat → Nat) (n : Nat) : wkd p b n ≤ n := fa_first_le _ n
theorem tM_placeOf {I : jM} {n p : Nat} {a : Nat → Nat → Nat} {od pl sd : Nat → Nat} {gn : List Nat} (hok : OKs n p a od pl sd gn) (mr : MR n od I) {u : Nat} (hu : u < n) {K : Int32 → Prop} (hK : K (nI (pl u))) : MD_placeOf 100 (nI u) I K := by
  have hn := hok.2.1
  have ho := hok.2.2.2.2.2.1
  obtain ⟨-, -, h3, h4⟩ := ho u hu
  unfold MD_placeOf MD_placeOf_2
  refine lp_n (pl u) (fun k (s : Int32) => s = nI k) ?_ ?_ (Nat.zero_le _) rfl
  · rintro k s X hk rfl go
    unfold MD_placeOf_2b
    simp only [jrs]
    rw [clamp (by omega), mr k (by omega)]
    refine ⟨vp_in_nI (by omega) (by omega), fun q => ?_, fun _ => go _ (nI_1 k)⟩
    have hkn := ho k (by omega)
    have e : od k = u := (nI_eq (by omega) (by omega)).mp q
    have : pl u = k := by rw [← e]; exact hkn.2.1
    omega
  · rintro s X rfl
    unfold MD_placeOf_2b
    simp only [jrs]
    rw [clamp (by omega), mr _ h3, h4]
    exact ⟨vp_in_nI (by omega) (by omega), fun _ => hK, fun q => absurd trivial (by simpa using q)⟩
/-- pivot(u) -/
theorem law_pivot {IX IM : jM} (h : RR IX IM) (a1 a2 a3 : Int32) : lawN_20 RR IX IM a1 a2 a3 := by
  obtain ⟨n, p, a, hd, od, pl, sd, gn, wd, hok, xt, xr, xf, xl, xg, xw, mt, mr, mg, mw, ml, hc⟩ := id h
  have hn := hok.2.1
  have hn1 := hok.1
  have ho := hok.2.2.2.2.2.1
  unfold lawN_20 OO_pivot
  simp only [jrs]
  rcases who a1 hn with ⟨u, hu, rfl⟩ | ⟨-, hx⟩
  · obtain ⟨-, -, h3, h4⟩ := ho u hu
    refine tX_isNobody_no hn xt.1 hu ⟨fun _ => ⟨vp_in_nI (by omega) (by omega), fun v ev => ?_⟩, fun q => absurd rfl q⟩
    rw [clamp (by omega), (xr.2 u hu).2] at ev
    subst ev
    have ref5 : ∀ (hs : ¬ nI u = IM 100 19) (hw : IM 100 18 ≤ nI (pl u)), MD_pivot 100 (nI u) IM (fun rm IM3 => (-5 : Int32) = rm ∧ RR (jwr IX 99 5 (IX 99 5 + 1)) IM3) := fun hs hw => by
      unfold MD_pivot
      exact tM_isUnknown_yes hn mt.1 hu ⟨fun _ => ⟨fun _ => tM_placeOf hok mr hu ⟨fun _ => tM_refuse (k := 5) (by omega) (by omega) m5_eq ⟨rfl, h.refuse 5 (by omega) (by omega)⟩, fun q => absurd hw q⟩, fun q => absurd q hs⟩, fun q => absurd q (by decide)⟩
    have neg : ∀ (k : Nat) (m : Int32), k < 2 ^ 31 → m < 0 → ¬ nI k = m := fun k m hk hm e => by rw [← e] at hm; exact nI_pos hk hm
    cases wd with
    | false =>
      obtain ⟨w4, w5⟩ := xw
      obtain ⟨m8, m9⟩ := mw
      rw [w4, w5]
      refine ⟨fun _ => ⟨fun _ => tX_refuse (k := 5) (by omega) (by omega) m5_eq (ref5 (by rw [m9]; exact neg u _ (by omega) (by decide)) (by rw [m8]; exact nI_pos' (by omega))), fun q => absurd (nI_pos' (by omega)) q⟩, fun q => absurd q (neg (pl u) _ (by omega) (by decide))⟩
    | true =>
      obtain ⟨w, b, hb, hw, w4, w5, w6⟩ := xw
      obtain ⟨w', b', hb', hw', m8, m9, m6⟩ := mw
      have eb : b' = b := hb'.trans hb.symm
      subst eb
      have ew : w' = w := hw'.trans hw.symm
      subst ew
      have hwn : w' ≤ n := by rw [hw]; exact wkd_le _ _ _
      rw [w4, w5]
      have stuck_iff : (nI (pl u) = if w' < n then nI w' else -1) ↔ (w' < n ∧ pl u = w') := by
        by_cases hl : w' < n
        · rw [if_pos hl]; exact ⟨fun q => ⟨hl, (nI_eq (by omega) (by omega)).mp q⟩, fun q => by rw [q.2]⟩
        · rw [if_neg hl]; exact ⟨fun q => absurd q (neg _ _ (by omega) (by decide)), fun q => absurd q.1 hl⟩
      have stuckM : (nI u = IM 100 19) ↔ (w' < n ∧ pl u = w') := by
        rw [m9]
        by_cases hl : w' < n
        · rw [if_pos hl]
          obtain ⟨o1, o2, -, -⟩ := ho w' hl
          exact ⟨fun q => ⟨hl, by rw [(nI_eq (by omega) (by omega)).mp q]; exact o2⟩, fun q => by rw [← q.2, h4]⟩
        · rw [if_neg hl]; exact ⟨fun q => absurd q (neg _ _ (by omega) (by decide)), fun q => absurd q.1 hl⟩
      refine ⟨fun q => ⟨fun q2 => tX_refuse (k := 5) (by omega) (by omega) m5_eq (ref5 (fun hh => q (stuck_iff.mpr (stuckM.mp hh))) (by rw [m8]; exact q2)), fun q2 => ⟨vp_in_nI (by omega) (by omega), ?_⟩⟩, fun q => ?_⟩
      · have hlt : pl u < w' := Nat.lt_of_not_le (fun hh => q2 (nI_le hh (by omega)))
        rw [clamp (by omega), (w6 _ hlt).1]
        unfold MD_pivot
        refine tM_isUnknown_yes hn mt.1 hu ⟨fun _ => ⟨fun _ => tM_placeOf hok mr hu ⟨fun q3 => absurd q3 (by rw [m8]; exact q2), fun _ => ⟨vp_in_nI (by omega) (by omega), ?_⟩⟩, fun q3 => absurd (stuck_iff.mpr (stuckM.mp q3)) q⟩, fun q => absurd q (by decide)⟩
        simp only [jrs]
        have := (m6 _ hlt).1
        rw [h4] at this
        rw [clamp (by omega), this]
        exact ⟨rfl, h⟩
      · unfold MD_pivot
        exact tM_isUnknown_yes hn mt.1 hu ⟨fun _ => ⟨fun q3 => absurd (stuckM.mpr (stuck_iff.mp q)) q3, fun _ => ⟨rfl, h⟩⟩, fun q => absurd q (by decide)⟩
  · refine tX_isNobody_yes xt.1 hx ⟨fun q => absurd q (by decide), fun _ => tX_refuse (k := 1) (by omega) (by omega) m1_eq ?_⟩
    unfold MD_pivot
    exact tM_isUnknown_no hn1 hn mt.1 hx ⟨fun q => absurd rfl q, fun _ => tM_refuse (k := 1) (by omega) (by omega) m1_eq ⟨rfl, h.refuse 1 (by omega) (by omega)⟩⟩
/-- one(u, v) -/
theorem law_one {IX IM : jM} (h : RR IX IM) (a1 a2 a3 : Int32) : lawN_21 RR IX IM a1 a2 a3 := by
  obtain ⟨n, p, a, hd, od, pl, sd, gn, wd, hok, xt, xr, xf, xl, xg, xw, mt, mr, mg, mw, ml, hc⟩ := id h
  have hn := hok.2.1
  have hn1 := hok.1
  have ho := hok.2.2.2.2.2.1
  have hp := hok.2.2.2.1.1
  have hp2 := hok.2.2.1
  have hrX : ∀ K : Int32 → jM → Prop, K (-1) (jwr IX 99 1 (IX 99 1 + 1)) → OO_one_16 0 IX K := fun K hK => by
    unfold OO_one_16
    exact tX_refuse (k := 1) (by omega) (by omega) m1_eq hK
  have hrM : ∀ K : Int32 → jM → Prop, K (-1) (jwr IM 105 1 (IM 105 1 + 1)) → MD_one_16 100 IM K := fun K hK => by
    unfold MD_one_16
    exact tM_refuse (k := 1) (by omega) (by omega) m1_eq hK
  unfold lawN_21 OO_one
  rcases who a1 hn with ⟨u, hu, rfl⟩ | ⟨-, hx⟩
  · refine tX_isNobody_no hn xt.1 hu ⟨fun q => absurd rfl q, fun _ => ?_⟩
    rcases who a2 hn with ⟨v, hv, rfl⟩ | ⟨-, hx⟩
    · obtain ⟨-, -, u3, u4⟩ := ho u hu
      obtain ⟨-, -, v3, v4⟩ := ho v hv
      refine tX_isNobody_no hn xt.1 hv ⟨fun _ => ⟨vp_in_nI (by omega) (by omega), ?_⟩, fun q => absurd rfl q⟩
      simp only [jrs]
      rw [clamp (by omega), clamp (by omega), (xr.2 v hv).2, (xr.2 u hu).2]
      -- how far the WORK came, on both sides
      obtain ⟨w, hwn, x4, m8, hval⟩ : ∃ w, w ≤ n ∧ IX 68 4 = nI w ∧ IM 100 18 = nI w ∧ ∀ k, k < w → ∀ i, k < i → i < n → IX (70 + i) k = IM 115 (24 * od i + od k) := by
        cases wd with
        | false => exact ⟨0, Nat.zero_le _, xw.1, mw.1, fun k hk => absurd hk (Nat.not_lt_zero k)⟩
        | true =>
          obtain ⟨w, b, hb, hw, w4, w5, w6⟩ := xw
          obtain ⟨w', b', hb', hw', m8, m9, m6⟩ := mw
          have eb : b' = b := hb'.trans hb.symm
          subst eb
          have ew : w' = w := hw'.trans hw.symm
          subst ew
          exact ⟨w', by rw [hw]; exact wkd_le _ _ _, w4, m8, fun k hk i h1 h2 => by rw [(w6 k hk).2.2 i h1 h2, (m6 k hk).2 i h1 h2]⟩
      rw [x4]
      have model : ∀ K : Int32 → jM → Prop, (pl v < w → (u ≠ v → (pl v ≤ pl u → K (IM 115 (24 * u + v)) IM) ∧ (¬ pl v ≤ pl u → K 0 IM)) ∧ (u = v → K 1 IM)) → (¬ pl v < w → K (-5) (jwr IM 105 5 (IM 105 5 + 1))) → MD_one 100 (nI u) (nI v) IM K := by
        intro K hk1 hk2
        unfold MD_one
        refine tM_isUnknown_yes hn mt.1 hu ⟨fun q => absurd q (by decide), fun _ => tM_isUnknown_yes hn mt.1 hv ⟨fun _ => tM_placeOf hok mr hv ?_, fun q => absurd q (by decide)⟩⟩
        rw [m8, mt.2.1]
        simp only [jrs]
        refine ⟨fun q => ?_, fun q => tM_refuse (k := 5) (by omega) (by omega) m5_eq (hk2 (fun hh => q (nI_lt hh (by omega))))⟩
        have hlt : pl v < w := (nI_ltI (by omega) (by omega)).mp q
        refine ⟨fun q2 => tM_placeOf hok mr hu (tM_placeOf hok mr hv ?_), fun q2 => ⟨nI_ne0 (by omega) (by omega), ?_⟩⟩
        · have huv : u ≠ v := fun e => q2 (by rw [e])
          rw [show (24 : Int32) = nI 24 from rfl, pk_mul, nI_add, clamp (by omega)]
          exact ⟨fun q3 => ⟨vp_in_nI (by omega) (by omega), ((hk1 hlt).1 huv).1 ((nI_leI (by omega) (by omega)).mp q3)⟩, fun q3 => ((hk1 hlt).1 huv).2 (fun hh => q3 (nI_le hh (by omega)))⟩
        · have huv : u = v := (nI_eq (by omega) (by omega)).mp q2
          rw [show (1 : Int32) = nI 1 from rfl, pk_rem (by omega) (by omega) (by omega), Nat.mod_eq_of_lt (by omega)]
          exact (hk1 hlt).2 huv
      refine ⟨fun q => ⟨vp_in_nI (by omega) (by omega), vp_in_nI (by omega) (by omega), ?_⟩, fun q => tX_refuse (k := 5) (by omega) (by omega) m5_eq (model _ (fun hh => absurd (nI_lt hh (by omega)) q) (fun _ => ⟨rfl, h.refuse 5 (by omega) (by omega)⟩))⟩
      have hlt : pl v < w := (nI_ltI (by omega) (by omega)).mp q
      have plinj : pl u = pl v → u = v := fun e => by rw [← u4, ← v4, e]
      unfold WO_share
      simp only [jrs, jws69]
      refine ⟨fun q2 => ⟨fun q3 => ⟨vp_in_nI (by omega) (by omega), vp_in_nI (by omega) (by omega), ?_⟩, fun q3 => ?_⟩, fun q2 => ?_⟩
      · have hle : pl v ≤ pl u := (nI_leI (by omega) (by omega)).mp q3
        have hne : pl u ≠ pl v := fun e => q2 (by rw [e])
        rw [clamp (by omega), clamp (by omega), hval _ hlt _ (by omega) u3, u4, v4]
        exact model _ (fun _ => ⟨fun _ => ⟨fun _ => ⟨rfl, h⟩, fun hh => absurd hle hh⟩, fun e => absurd (by rw [e]) hne⟩) (fun hh => absurd hlt hh)
      · have hnle : ¬ pl v ≤ pl u := fun hh => q3 (nI_le hh (by omega))
        exact model _ (fun _ => ⟨fun _ => ⟨fun hh => absurd hh hnle, fun _ => ⟨rfl, h⟩⟩, fun e => absurd (by rw [e]; exact Nat.le_refl _) hnle⟩) (fun hh => absurd hlt hh)
      · have e : u = v := plinj ((nI_eq (by omega) (by omega)).mp q2)
        exact model _ (fun _ => ⟨fun hh => absurd e hh, fun _ => ⟨rfl, h⟩⟩) (fun hh => absurd hlt hh)
    · refine tX_isNobody_yes xt.1 hx ⟨fun q => absurd q (by decide), fun _ => hrX _ ?_⟩
      unfold MD_one
      refine tM_isUnknown_yes hn mt.1 hu ⟨fun q => absurd q (by decide), fun _ => tM_isUnknown_no hn1 hn mt.1 hx ⟨fun q => absurd rfl q, fun _ => hrM _ ⟨rfl, h.refuse 1 (by omega) (by omega)⟩⟩⟩
  · refine tX_isNobody_yes xt.1 hx ⟨fun _ => hrX _ ?_, fun q => absurd q (by decide)⟩
    unfold MD_one
    exact tM_isUnknown_no hn1 hn mt.1 hx ⟨fun _ => hrM _ ⟨rfl, h.refuse 1 (by omega) (by omega)⟩, fun q => absurd rfl q⟩
