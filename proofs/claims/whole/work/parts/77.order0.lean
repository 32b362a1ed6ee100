/-! ===== side, swap ===== -/
theorem t_orderChanged {I : jM} {K : jM → Prop} (hK : ∀ J : jM, (∀ x, x ≠ 0 → x ≠ 68 → J x = I x) → J 0 9 = 0 → J 0 10 = I 0 10 → J 68 4 = 0 → J 68 5 = -1 → K J) : OO_orderChanged 0 I K := by
  unfold OO_orderChanged WO_forget
  simp only [jrs]
  intro I1 e1 I2 e2 I3 e3
  refine hK I3 (fun x h0 h68 => by rw [e3, jwr_ne h68, e2, jwr_ne h68, e1, jwr_ne h0]) ?_ ?_ ?_ ?_
  · rw [e3, jwr_ne (by omega), e2, jwr_ne (by omega), e1, jwr_at, if_pos ⟨rfl, rfl⟩]
  · rw [e3, jwr_ne (by omega), e2, jwr_ne (by omega), e1, jwr_at, if_neg (by omega)]
  · rw [e3, jwr_at, if_neg (by omega), e2, jwr_at, if_pos ⟨rfl, rfl⟩]
  · rw [e3, jwr_at, if_pos ⟨rfl, rfl⟩]
theorem tM_notWorked {I : jM} {K : jM → Prop} (hK : ∀ J : jM, (∀ x, x ≠ 100 → J x = I x) → (∀ k, k ≠ 18 → k ≠ 19 → J 100 k = I 100 k) → J 100 18 = 0 → J 100 19 = -9 → K J) : MD_notWorked 100 I K := by
  unfold MD_notWorked
  intro I1 e1 I2 e2
  refine hK I2 (fun x h => by rw [e2, jwr_ne h, e1, jwr_ne h]) (fun k h1 h2 => by rw [e2, jwr_at, if_neg (by omega), e1, jwr_at, if_neg (by omega)]) ?_ ?_
  · rw [e2, jwr_at, if_neg (by omega), e1, jwr_at, if_pos ⟨rfl, rfl⟩]
  · rw [e2, jwr_at, if_pos ⟨rfl, rfl⟩]
/-- side(u, v) -/
theorem law_side {IX IM : jM} (h : RR IX IM) (a1 a2 a3 : Int32) : lawN_23 RR IX IM a1 a2 a3 := by
  obtain ⟨n, p, a, hd, od, pl, sd, gn, wd, hok, xt, xr, xf, xl, xg, xw, mt, mr, mg, mw, ml, hc⟩ := id h
  have hn := hok.2.1
  have hn1 := hok.1
  have hp := hok.2.2.2.1.1
  have hp2 := hok.2.2.1
  unfold lawN_23 OO_side
  simp only [jrs]
  rcases who a1 hn with ⟨u, hu, rfl⟩ | ⟨-, hx⟩
  · refine tX_isNobody_no hn xt.1 hu ⟨fun _ => ⟨vp_in_nI (by omega) (by omega), fun v ev => t_reduce hp (by omega) xt.2.1 a2 ⟨vp_in_nI (by omega) (by omega), fun JX fX => ?_⟩⟩, fun q => absurd rfl q⟩
    rw [clamp (by omega)] at ev fX
    rw [ev, xt.2.2.2.2.2 u hu]
    unfold MD_side
    simp only [jrs]
    refine tM_isUnknown_yes hn mt.1 hu ⟨fun _ => ⟨vp_in_nI (by omega) (by omega), fun w ew => t_modulo hp (by omega) mt.2.1 _ ⟨vp_in_nI (by omega) (by omega), fun JM fM => ?_⟩⟩, fun q => absurd q (by decide)⟩
    rw [clamp (by omega)] at ew fM
    rw [Int32.toInt_toInt64] at fM
    refine ⟨by rw [ew, mt.2.2.2.2 u hu], ?_⟩
    have eX : ∀ c, c ≠ 29 → JX c = IX c := fun c hc => by rw [fX]; exact jwr_ne hc
    have eM : ∀ c, c ≠ 104 → JM c = IM c := fun c hc => by rw [fM]; exact jwr_ne hc
    refine ⟨n, p, a, hd, od, pl, (fun x => if x = u then md p a2.toInt else sd x), gn, wd, ⟨hok.1, hok.2.1, hok.2.2.1, hok.2.2.2.1, hok.2.2.2.2.1, hok.2.2.2.2.2.1, fun x hx => ?_, hok.2.2.2.2.2.2.2⟩, ?_, xr.fr (fun c _ _ => eX c (by omega)), xf.fr (by rw [eX 0 (by omega)]) (fun c _ _ => eX c (by omega)), xl.fr (by rw [eX 0 (by omega)]) (fun c _ _ => eX c (by omega)), xg.fr (fun c _ _ => eX c (by omega)), xw.fr (fun c _ _ => eX c (by omega)) hn, ?_, mr.fr (eM _ (by omega)), mg.fr (by rw [eM 100 (by omega)]) (eM _ (by omega)) (eM _ (by omega)) (eM _ (by omega)), mw.fr (by rw [eM 100 (by omega)]) (by rw [eM 100 (by omega)]) (eM _ (by omega)) (eM _ (by omega)), ml.fr (by rw [eM 100 (by omega)]) (eM _ (by omega)), fun j hj hj6 => by rw [eX 99 (by omega), eM 105 (by omega)]; exact hc j hj hj6⟩
    · dsimp only
      split
      · exact md_lt (by omega) _
      · exact hok.2.2.2.2.2.2.1 x hx
    · obtain ⟨t1, t2, t3, t4, t5, t6⟩ := xt
      refine ⟨by rw [eX 1 (by omega)]; exact t1, by rw [eX 2 (by omega)]; exact t2, fun u w hu hw => by rw [eX (4 + u) (by omega)]; exact t3 u w hu hw, fun u hu => by rw [eX 28 (by omega)]; exact t4 u hu, by rw [eX 1 (by omega)]; exact t5, fun x hx => ?_⟩
      rw [fX, jwr_at]
      by_cases hxu : x = u
      · simp [hxu]
      · simp [hxu, t6 x hx]
    · obtain ⟨t1, t2, t3, t4, t5⟩ := mt
      refine ⟨by rw [eM 100 (by omega)]; exact t1, by rw [eM 100 (by omega)]; exact t2, fun u w hu hw => by rw [eM 101 (by omega)]; exact t3 u w hu hw, fun u hu => by rw [eM 102 (by omega)]; exact t4 u hu, fun x hx => ?_⟩
      rw [fM, jwr_at]
      by_cases hxu : x = u
      · simp [hxu]
      · simp [hxu, t5 x hx]
  · refine tX_isNobody_yes xt.1 hx ⟨fun q => absurd q (by decide), fun _ => tX_refuse (k := 1) (by omega) (by omega) m1_eq ?_⟩
    unfold MD_side
    simp only [jrs]
    exact tM_isUnknown_no hn1 hn mt.1 hx ⟨fun q => absurd rfl q, fun _ => tM_refuse (k := 1) (by omega) (by omega) m1_eq ⟨rfl, h.refuse 1 (by omega) (by omega)⟩⟩
/-- the ORDER alone has changed, and what hangs on it is forgotten -/
theorem rr_ord {IX IM JX JM : jM} {n p : Nat} {a : Nat → Nat → Nat} {hd : Nat → Bool} {od pl od2 pl2 sd : Nat → Nat} {gn : List Nat} (hok : OKs n p a od pl sd gn) (xt : XT n p a hd sd IX) (xl : XL n a JX) (xg : XG n a gn IX) (mt : MT n p a hd sd IM) (mg : MG n a gn IM) (ml : ML n a JM) (hc : ∀ k, 1 ≤ k → k ≤ 6 → IX 99 k = IM 105 k)
    (eX : ∀ x, 1 ≤ x ∧ x ≤ 29 ∨ 64 ≤ x ∧ x ≤ 67 ∨ x = 99 → JX x = IX x) (e9 : XF n a od2 pl2 JX) (w4 : JX 68 4 = 0) (w5 : JX 68 5 = -1) (xr : XR n od2 pl2 JX) (hod : ∀ i, i < n → od2 i < n ∧ pl2 (od2 i) = i ∧ pl2 i < n ∧ od2 (pl2 i) = i)
    (eM : ∀ x, x = 101 ∨ x = 102 ∨ x = 104 ∨ x = 105 ∨ x = 111 ∨ x = 112 ∨ x = 113 → JM x = IM x) (eM0 : ∀ k, k = 0 ∨ k = 1 ∨ k = 15 → JM 100 k = IM 100 k) (m8 : JM 100 18 = 0) (m9 : JM 100 19 = -9) (mr : MR n od2 JM) : RR JX JM := by
  have hn := hok.2.1
  refine ⟨n, p, a, hd, od2, pl2, sd, gn, false, ⟨hok.1, hok.2.1, hok.2.2.1, hok.2.2.2.1, hok.2.2.2.2.1, hod, hok.2.2.2.2.2.2.1, hok.2.2.2.2.2.2.2⟩, xt.fr (fun c _ _ => eX c (by omega)) hn, xr, e9, xl, xg.fr (fun c _ _ => eX c (by omega)), ⟨w4, w5⟩, mt.fr (eM0 0 (by omega)) (eM0 1 (by omega)) (eM _ (by omega)) (eM _ (by omega)) (eM _ (by omega)), mr, mg.fr (eM0 15 (by omega)) (eM _ (by omega)) (eM _ (by omega)) (eM _ (by omega)), ⟨m8, m9⟩, ml, fun k h1 h6 => by rw [eX 99 (by omega), eM 105 (by omega)]; exact hc k h1 h6⟩
theorem nI_ite2 {c d : Prop} [Decidable c] [Decidable d] (x y z : Nat) : (if c then nI x else if d then nI y else nI z) = nI (if c then x else if d then y else z) := by
  by_cases hc : c <;> by_cases hd : d <;> simp [hc, hd]
/-- swap(i, k) -/
theorem law_swap {IX IM : jM} (h : RR IX IM) (a1 a2 a3 : Int32) : lawN_5 RR IX IM a1 a2 a3 := by
  obtain ⟨n, p, a, hd, od, pl, sd, gn, wd, hok, xt, xr, xf, xl, xg, xw, mt, mr, mg, mw, ml, hc⟩ := id h
  have hn := hok.2.1
  have hn1 := hok.1
  have ho := hok.2.2.2.2.2.1
  have hrX : ∀ K : Int32 → jM → Prop, K (-1) (jwr IX 99 1 (IX 99 1 + 1)) → OO_swap_16 0 IX K := fun K hK => by
    unfold OO_swap_16
    exact tX_refuse (k := 1) (by omega) (by omega) m1_eq hK
  have hrM : ∀ K : Int32 → jM → Prop, K (-1) (jwr IM 105 1 (IM 105 1 + 1)) → MD_swap_16 100 IM K := fun K hK => by
    unfold MD_swap_16
    exact tM_refuse (k := 1) (by omega) (by omega) m1_eq hK
  unfold lawN_5 OO_swap
  rcases who a1 hn with ⟨u, hu, rfl⟩ | ⟨-, hx⟩
  · refine tX_isNobody_no hn xt.1 hu ⟨fun q => absurd rfl q, fun _ => ?_⟩
    rcases who a2 hn with ⟨w, hw, rfl⟩ | ⟨-, hx⟩
    · refine tX_isNobody_no hn xt.1 hw ⟨fun _ => ?_, fun q => absurd rfl q⟩
      have hou := (ho u hu).1
      have how := (ho w hw).1
      unfold RO_exchange RO_set
      simp only [jrs]
      refine ⟨vp_in_nI (by omega) (by omega), fun v ev => ⟨vp_in_nI (by omega) (by omega), vp_in_nI (by omega) (by omega), fun I1 f1 => ?_⟩⟩
      rw [clamp (by omega), (xr.2 u hu).1] at ev
      rw [clamp (by omega), clamp (by omega), (xr.2 w hw).1] at f1
      refine ⟨by rw [clamp (by omega), (xr.2 w hw).1]; exact vp_in_nI (by omega) (by omega), fun I2 f2 => ⟨vp_in_nI (by omega) (by omega), fun I3 f3 => ⟨by rw [ev]; exact vp_in_nI (by omega) (by omega), fun I4 f4 => ?_⟩⟩⟩
      rw [clamp (by omega), (xr.2 w hw).1, clamp (by omega)] at f2
      rw [clamp (by omega), ev] at f3
      rw [ev, clamp (by omega)] at f4
      have g1 : ∀ x, x ≠ 31 → x ≠ 32 → I4 x = IX x := fun x h1 h2 => by rw [f4, jwr_ne h2, f3, jwr_ne h1, f2, jwr_ne h2, f1, jwr_ne h1]
      have g2 : ∀ i, I4 31 i = if i = w then nI (od u) else if i = u then nI (od w) else IX 31 i := fun i => by
        rw [f4, jwr_ne (by omega), f3, jwr_at, f2, jwr_ne (by omega), f1, jwr_at]
        by_cases h1 : i = w <;> by_cases h2 : i = u <;> simp [h1, h2]
      have g3 : ∀ y, I4 32 y = if y = od u then nI w else if y = od w then nI u else IX 32 y := fun y => by
        rw [f4, jwr_at, f3, jwr_ne (by omega), f2, jwr_at, f1, jwr_ne (by omega)]
        by_cases h1 : y = od u <;> by_cases h2 : y = od w <;> simp [h1, h2]
      refine t_orderChanged (fun JX eX x9 x10 w4 w5 => ?_)
      unfold MD_swap
      refine tM_isUnknown_yes hn mt.1 hu ⟨fun q => absurd q (by decide), fun _ => tM_isUnknown_yes hn mt.1 hw ⟨fun _ => ?_, fun q => absurd q (by decide)⟩⟩
      simp only [jrs]
      refine ⟨vp_in_nI (by omega) (by omega), fun v2 ev2 => ⟨vp_in_nI (by omega) (by omega), vp_in_nI (by omega) (by omega), fun M1 m1 => ⟨vp_in_nI (by omega) (by omega), fun M2 m2 => tM_notWorked (fun JM eM eM0 m8 m9 => ⟨trivial, ?_⟩)⟩⟩⟩
      rw [clamp (by omega), mr u hu] at ev2
      rw [clamp (by omega), clamp (by omega), mr w hw] at m1
      rw [clamp (by omega), ev2] at m2
      have k1 : ∀ x, x ≠ 103 → M2 x = IM x := fun x hx => by rw [m2, jwr_ne hx, m1, jwr_ne hx]
      have k2 : ∀ i, M2 103 i = if i = w then nI (od u) else if i = u then nI (od w) else IM 103 i := fun i => by
        rw [m2, jwr_at, m1, jwr_at]
        by_cases h1 : i = w <;> by_cases h2 : i = u <;> simp [h1, h2]
      refine rr_ord (od2 := fun i => if i = w then od u else if i = u then od w else od i) (pl2 := fun y => if y = od u then w else if y = od w then u else pl y) hok xt (xl.fr (by rw [x10, g1 0 (by omega) (by omega)]) (fun c _ _ => by rw [eX c (by omega) (by omega), g1 c (by omega) (by omega)])) xg mt mg (ml.fr (by rw [eM0 13 (by omega) (by omega), k1 100 (by omega)]) (by rw [eM 110 (by omega), k1 110 (by omega)])) hc (fun x hx => by rw [eX x (by omega) (by omega), g1 x (by omega) (by omega)]) (XF.no x9) w4 w5 ⟨by rw [eX 30 (by omega) (by omega), g1 30 (by omega) (by omega)]; exact xr.1, fun i hi => ?_⟩ (fun i hi => ?_) (fun x hx => by rw [eM x (by omega), k1 x (by omega)]) (fun k hk => by rw [eM0 k (by omega) (by omega), k1 100 (by omega)]) m8 m9 (fun i hi => ?_)
      · rw [eX 31 (by omega) (by omega), eX 32 (by omega) (by omega), g2, g3, (xr.2 i hi).1, (xr.2 i hi).2]
        constructor
        · exact nI_ite2 _ _ _
        · exact nI_ite2 _ _ _
      · obtain ⟨i1, i2, i3, i4⟩ := ho i hi
        obtain ⟨u1, u2, u3, u4⟩ := ho u hu
        obtain ⟨w1, w2, w3, w4⟩ := ho w hw
        have inj : ∀ x y, x < n → y < n → od x = od y → x = y := fun x y hx hy e => by rw [← (ho x hx).2.1, ← (ho y hy).2.1, e]
        refine ⟨?_, ?_, ?_, ?_⟩
        · by_cases h1 : i = w
          · simp [h1, u1]
          · by_cases h2 : i = u
            · simp [h2, w1]; split <;> assumption
            · simp [h1, h2, i1]
        · by_cases h1 : i = w
          · simp [h1]
          · by_cases h2 : i = u
            · have h3 : ¬ u = w := fun e => h1 (h2.trans e)
              have h4 : ¬ od w = od u := fun e => h3 (inj u w hu hw e.symm)
              simp [h2, h3, h4]
            · have h3 : ¬ od i = od u := fun e => h2 (inj i u hi hu e)
              have h4 : ¬ od i = od w := fun e => h1 (inj i w hi hw e)
              simp [h1, h2, h3, h4, i2]
        · by_cases h1 : i = od u
          · simp [h1, hw]
          · by_cases h2 : i = od w
            · simp [h2]; split <;> assumption
            · simp [h1, h2, i3]
        · by_cases h1 : i = od u
          · simp [h1]
          · by_cases h2 : i = od w
            · have h3 : ¬ od w = od u := fun e => h1 (h2.trans e)
              have h4 : ¬ u = w := fun e => h3 (by rw [e])
              simp [h2, h3, h4]
            · have h3 : ¬ pl i = w := fun e => h2 (by rw [← i4, e])
              have h4 : ¬ pl i = u := fun e => h1 (by rw [← i4, e])
              simp [h1, h2, h3, h4, i4]
      · rw [eM 103 (by omega), k2, mr i hi]
        exact nI_ite2 _ _ _
    · refine tX_isNobody_yes xt.1 hx ⟨fun q => absurd q (by decide), fun _ => hrX _ ?_⟩
      unfold MD_swap
      refine tM_isUnknown_yes hn mt.1 hu ⟨fun q => absurd q (by decide), fun _ => tM_isUnknown_no hn1 hn mt.1 hx ⟨fun q => absurd rfl q, fun _ => hrM _ ⟨rfl, h.refuse 1 (by omega) (by omega)⟩⟩⟩
  · refine tX_isNobody_yes xt.1 hx ⟨fun _ => hrX _ ?_, fun q => absurd q (by decide)⟩
    unfold MD_swap
    exact tM_isUnknown_no hn1 hn mt.1 hx ⟨fun _ => hrM _ ⟨rfl, h.refuse 1 (by omega) (by omega)⟩, fun q => absurd rfl q⟩
