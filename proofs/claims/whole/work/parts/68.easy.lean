/-! ===== the calls that only look, or write one number ===== -/
theorem m1_eq : (-1 : Int32) = -nI 1 := by decide
theorem m3_eq : (-3 : Int32) = -nI 3 := by decide
theorem m5_eq : (-5 : Int32) = -nI 5 := by decide
/-- number(u, w) -/
theorem law_number {IX IM : jM} (h : RR IX IM) (a1 a2 a3 : Int32) : lawN_2 RR IX IM a1 a2 a3 := by
  obtain ⟨n, p, a, hd, od, pl, sd, gn, wd, hok, xt, xr, xf, xl, xg, xw, mt, mr, mg, mw, ml, hc⟩ := id h
  have hn := hok.2.1
  have hn1 := hok.1
  have hrX : ∀ K : Int32 → jM → Prop, K (-1) (jwr IX 99 1 (IX 99 1 + 1)) → OO_number_16 0 IX K := fun K hK => by
    unfold OO_number_16
    exact tX_refuse (k := 1) (by omega) (by omega) m1_eq hK
  have hrM : ∀ K : Int32 → jM → Prop, K (-1) (jwr IM 105 1 (IM 105 1 + 1)) → MD_number_30 100 IM K := fun K hK => by
    unfold MD_number_30
    exact tM_refuse (k := 1) (by omega) (by omega) m1_eq hK
  unfold lawN_2 OO_number
  rcases who a1 hn with ⟨u, hu, rfl⟩ | ⟨-, hx⟩
  · refine tX_isNobody_no hn xt.1 hu ⟨fun q => absurd rfl q, fun _ => ?_⟩
    rcases who a2 hn with ⟨w, hw, rfl⟩ | ⟨-, hx⟩
    · refine tX_isNobody_no hn xt.1 hw ⟨fun _ => ⟨vp_in_nI (by omega) (by omega), vp_in_nI (by omega) (by omega), ?_⟩, fun q => absurd rfl q⟩
      simp only [jrs, jws3]
      rw [clamp (by omega), clamp (by omega), xt.2.2.1 u w hu hw]
      unfold MD_number
      refine tM_isUnknown_yes hn mt.1 hu ⟨fun q => absurd q (by decide), fun _ => tM_isUnknown_yes hn mt.1 hw ⟨fun q => absurd q (by decide), fun _ => ?_⟩⟩
      rw [show (24 : Int32) = nI 24 from rfl, pk_mul, nI_add]
      refine ⟨vp_in_nI (by omega) (by omega), ?_⟩
      simp only [jrs]
      rw [clamp (by omega), mt.2.2.1 u w hu hw]
      exact ⟨rfl, h⟩
    · refine tX_isNobody_yes xt.1 hx ⟨fun q => absurd q (by decide), fun _ => hrX _ ?_⟩
      unfold MD_number
      refine tM_isUnknown_yes hn mt.1 hu ⟨fun q => absurd q (by decide), fun _ => tM_isUnknown_no hn1 hn mt.1 hx ⟨fun _ => hrM _ ⟨rfl, h.refuse 1 (by omega) (by omega)⟩, fun q => absurd rfl q⟩⟩
  · refine tX_isNobody_yes xt.1 hx ⟨fun _ => hrX _ ?_, fun q => absurd q (by decide)⟩
    unfold MD_number
    exact tM_isUnknown_no hn1 hn mt.1 hx ⟨fun _ => hrM _ ⟨rfl, h.refuse 1 (by omega) (by omega)⟩, fun q => absurd rfl q⟩
/-- at(i) -/
theorem law_at {IX IM : jM} (h : RR IX IM) (a1 a2 a3 : Int32) : lawN_6 RR IX IM a1 a2 a3 := by
  obtain ⟨n, p, a, hd, od, pl, sd, gn, wd, hok, xt, xr, xf, xl, xg, xw, mt, mr, mg, mw, ml, hc⟩ := id h
  have hn := hok.2.1
  have hn1 := hok.1
  unfold lawN_6 OO_at
  rcases who a1 hn with ⟨u, hu, rfl⟩ | ⟨-, hx⟩
  · refine tX_isNobody_no hn xt.1 hu ⟨fun _ => ⟨vp_in_nI (by omega) (by omega), ?_⟩, fun q => absurd rfl q⟩
    simp only [jrs]
    rw [clamp (by omega), (xr.2 u hu).1]
    unfold MD_at
    refine tM_isUnknown_yes hn mt.1 hu ⟨fun q => absurd q (by decide), fun _ => ⟨vp_in_nI (by omega) (by omega), ?_⟩⟩
    simp only [jrs]
    rw [clamp (by omega), mr u hu]
    exact ⟨rfl, h⟩
  · refine tX_isNobody_yes xt.1 hx ⟨fun q => absurd q (by decide), fun _ => tX_refuse (k := 1) (by omega) (by omega) m1_eq ?_⟩
    unfold MD_at
    exact tM_isUnknown_no hn1 hn mt.1 hx ⟨fun _ => tM_refuse (k := 1) (by omega) (by omega) m1_eq ⟨rfl, h.refuse 1 (by omega) (by omega)⟩, fun q => absurd rfl q⟩
/-- hold(u, on) -/
theorem law_hold {IX IM : jM} (h : RR IX IM) (a1 a2 a3 : Int32) : lawN_3 RR IX IM a1 a2 a3 := by
  obtain ⟨n, p, a, hd, od, pl, sd, gn, wd, hok, xt, xr, xf, xl, xg, xw, mt, mr, mg, mw, ml, hc⟩ := id h
  have hn := hok.2.1
  have hn1 := hok.1
  have key : ∀ b : Bool, OO_hold 0 a1 (if b then 1 else 0) IX (fun rx IX3 => MD_hold 100 a1 (if b then 1 else 0) IM (fun rm IM3 => rx = rm ∧ RR IX3 IM3)) := by
    intro b
    unfold OO_hold
    rcases who a1 hn with ⟨u, hu, rfl⟩ | ⟨-, hx⟩
    · refine tX_isNobody_no hn xt.1 hu ⟨fun q => absurd rfl q, fun _ => ?_⟩
      have hheld : ∀ K : Int32 → Prop, K (if hd u then 1 else 0) → TA_isHeld (jr 0 0) (nI u) IX K := fun K hK => by
        unfold TA_isHeld
        simp only [jrs]
        rw [xt.2.2.2.2.1, mk_tst1 _ (by omega)]
        cases hh : hd u <;> simp [hh, hu] at hK ⊢ <;> exact hK
      refine hheld _ ⟨fun q => ?_, fun q => ?_⟩
      · intro I2 e2
        simp only [jrs] at e2
        have hne : hd u ≠ b := fun e => q (by rw [e])
        have hb : b = !hd u := by revert hne; cases hd u <;> cases b <;> simp
        unfold MD_hold
        refine tM_isUnknown_yes hn mt.1 hu ⟨fun q => absurd q (by decide), fun _ => ⟨vp_in_nI (by omega) (by omega), ?_⟩⟩
        simp only [jrs]
        rw [clamp (by omega), mt.2.2.2.1 u hu]
        refine ⟨fun _ => ⟨vp_in_nI (by omega) (by omega), fun I3 e3 => ⟨by trivial, ?_⟩⟩, fun q2 => absurd q2 q⟩
        have hnar : vp_nar .boolean (if b then 1 else 0) = if b then 1 else 0 := by cases b <;> decide
        rw [hnar] at e3
        have eX : ∀ c, c ≠ 1 → I2 c = IX c := fun c hc => by rw [e2]; exact jwr_ne hc
        have eX1 : ∀ k, k ≠ 5 → I2 1 k = IX 1 k := fun k hk => by rw [e2, jwr_at]; simp [hk]
        have eM : ∀ c, c ≠ 102 → I3 c = IM c := fun c hc => by rw [e3]; exact jwr_ne hc
        refine ⟨n, p, a, (fun x => if x = u then b else hd x), od, pl, sd, gn, wd, hok, ?_, xr.fr (fun c _ _ => eX c (by omega)), xf.fr (by rw [eX 0 (by omega)]) (fun c _ _ => eX c (by omega)), xl.fr (by rw [eX 0 (by omega)]) (fun c _ _ => eX c (by omega)), xg.fr (fun c _ _ => eX c (by omega)), xw.fr (fun c _ _ => eX c (by omega)) hn, ?_, mr.fr (eM _ (by omega)), mg.fr (by rw [eM 100 (by omega)]) (eM _ (by omega)) (eM _ (by omega)) (eM _ (by omega)), mw.fr (by rw [eM 100 (by omega)]) (by rw [eM 100 (by omega)]) (eM _ (by omega)) (eM _ (by omega)), ml.fr (by rw [eM 100 (by omega)]) (eM _ (by omega)), fun j hj hj6 => by rw [eX 99 (by omega), eM 105 (by omega)]; exact hc j hj hj6⟩
        · obtain ⟨t1, t2, t3, t4, t5, t6⟩ := xt
          refine ⟨by rw [eX1 4 (by omega)]; exact t1, by rw [eX 2 (by omega)]; exact t2, fun u w hu hw => by rw [eX (4 + u) (by omega)]; exact t3 u w hu hw, fun u hu => by rw [eX 28 (by omega)]; exact t4 u hu, ?_, fun u hu => by rw [eX 29 (by omega)]; exact t6 u hu⟩
          rw [e2, jwr_at, if_pos ⟨rfl, rfl⟩, t5, mk_one (by omega), mk_xor]
          apply mk_ext
          intro i hi
          by_cases hiu : i = u
          · subst hiu; simp [hu, hb]
          · simp [hiu]
        · obtain ⟨t1, t2, t3, t4, t5⟩ := mt
          refine ⟨by rw [eM 100 (by omega)]; exact t1, by rw [eM 100 (by omega)]; exact t2, fun u w hu hw => by rw [eM 101 (by omega)]; exact t3 u w hu hw, fun x hx => ?_, fun u hu => by rw [eM 104 (by omega)]; exact t5 u hu⟩
          rw [e3, jwr_at]
          by_cases hxu : x = u
          · simp [hxu]
          · simp [hxu, t4 x hx]
      · unfold MD_hold
        refine tM_isUnknown_yes hn mt.1 hu ⟨fun q => absurd q (by decide), fun _ => ⟨vp_in_nI (by omega) (by omega), ?_⟩⟩
        simp only [jrs]
        rw [clamp (by omega), mt.2.2.2.1 u hu]
        exact ⟨fun q2 => absurd q q2, fun _ => ⟨by trivial, h⟩⟩
    · refine tX_isNobody_yes xt.1 hx ⟨fun _ => ?_, fun q => absurd q (by decide)⟩
      unfold MD_hold
      exact tM_isUnknown_no hn1 hn mt.1 hx ⟨fun _ => ⟨rfl, h⟩, fun q => absurd rfl q⟩
  unfold lawN_3
  exact ⟨fun _ => key false, fun _ => key true⟩
