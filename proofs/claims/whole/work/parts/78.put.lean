/-! ===== put ===== -/
theorem t_numbersChanged {n p : Nat} {a : Nat → Nat → Nat} {hd : Nat → Bool} {sd : Nat → Nat} {I : jM} (hn : n ≤ 24) (xt : XT n p a hd sd I) {K : jM → Prop} (hK : ∀ J : jM, (∀ x, x ≠ 0 → x < 64 ∨ 68 < x → J x = I x) → J 0 9 = 0 → J 0 10 = 0 → XG n a [] J → J 68 4 = 0 → J 68 5 = -1 → K J) : OO_numbersChanged 0 I K := by
  unfold OO_numbersChanged
  simp only [jrs]
  intro I1 e1
  have q1 : ∀ x, x ≠ 0 → I1 x = I x := fun x hx => by rw [e1, jwr_ne hx]
  refine t_restart hn (xt.fr (fun c _ _ => q1 c (by omega)) hn) (fun J j1 xg => t_orderChanged (fun J2 k1 k9 k10 w4 w5 => hK J2 (fun x h0 h1 => ?_) k9 ?_ (xg.fr (fun c _ _ => k1 c (by omega) (by omega))) w4 w5))
  · rw [k1 x h0 (by omega), j1 x (by omega), q1 x h0]
  · rw [k10, j1 0 (by omega), e1, jwr_at, if_pos ⟨rfl, rfl⟩]
def put2 (a : Nat → Nat → Nat) (u w r : Nat) : Nat → Nat → Nat := fun x y => if (x = u ∧ y = w) ∨ (x = w ∧ y = u) then r else a x y
/-- the numbers have changed: all that hangs on them is forgotten -/
theorem rr_num {IX IM JX JM : jM} {n p n2 p2 : Nat} {a a2 : Nat → Nat → Nat} {hd hd2 : Nat → Bool} {od2 pl2 sd2 : Nat → Nat} (hok : OKs n2 p2 a2 od2 pl2 sd2 []) (xt : XT n2 p2 a2 hd2 sd2 JX) (xr : XR n2 od2 pl2 JX) (x9 : JX 0 9 = 0) (x10 : JX 0 10 = 0) (xg : XG n2 a2 [] JX) (w4 : JX 68 4 = 0) (w5 : JX 68 5 = -1) (mt : MT n2 p2 a2 hd2 sd2 JM) (mr : MR n2 od2 JM) (mg : MG n2 a2 [] JM) (m8 : JM 100 18 = 0) (m9 : JM 100 19 = -9) (m13 : JM 100 13 = -1) (hc : ∀ k, 1 ≤ k → k ≤ 6 → JX 99 k = JM 105 k) : RR JX JM :=
  ⟨n2, p2, a2, hd2, od2, pl2, sd2, [], false, hok, xt, xr, XF.no x9, XL.no x10, xg, ⟨w4, w5⟩, mt, mr, mg, ⟨m8, m9⟩, ML.no m13, hc⟩
theorem tX_set {n p : Nat} {a : Nat → Nat → Nat} {hd : Nat → Bool} {sd : Nat → Nat} {I : jM} (hn : n ≤ 24) (hp : 2 ≤ p) (hp2 : p ≤ 32749) (xt : XT n p a hd sd I) {u w : Nat} (hu : u < n) (hw : w < n) (v : Int32) {K : jM → Prop} (hK : ∀ J : jM, (∀ x, 30 ≤ x ∨ x = 0 → J x = I x) → XT n p (put2 a u w (md p v.toInt)) hd sd J → K J) : TA_set 1 (nI u) (nI w) v I K := by
  unfold TA_set
  simp only [jrs, jws3]
  refine t_reduce hp (by omega) xt.2.1 v ?_
  have hr := md_lt (show 0 < p by omega) v.toInt
  generalize hre : md p v.toInt = r at hr hK ⊢
  have hv : ∀ x, x < n → vp_in (nI x) 24 := fun x hx => vp_in_nI (by omega) (by omega)
  rw [clamp (show u < 2 ^ 31 by omega), clamp (show w < 2 ^ 31 by omega)]
  refine ⟨hv u hu, hv w hw, fun I3 f3 => ⟨hv w hw, hv u hu, fun I5 f5 => ?_⟩⟩
  obtain ⟨t1, t2, t3, t4, t5, t6⟩ := xt
  have q0 : ∀ x, x ≠ 4 + u → x ≠ 4 + w → I5 x = I x := fun x h1 h2 => by rw [f5, jwr_ne h2, f3, jwr_ne h1]
  have q1 : ∀ x y, x < n → y < n → I5 (4 + x) y = nI (put2 a u w r x y) := fun x y hx hy => by
    rw [f5, jwr_at, f3, jwr_at]
    unfold put2
    by_cases h1 : x = w ∧ y = u
    · rw [if_pos (by omega), if_pos (Or.inr h1)]
    · rw [if_neg (by omega)]
      by_cases h2 : x = u ∧ y = w
      · rw [if_pos (by omega), if_pos (Or.inl h2)]
      · rw [if_neg (by omega), if_neg (by omega)]
        exact t3 x y hx hy
  have q28 : ∀ x, x < n → I5 28 x = mk (adj n a x) := fun x hx => by rw [q0 28 (by omega) (by omega)]; exact t4 x hx
  have fin : ∀ J : jM, (∀ x, x ≠ 28 → J x = I5 x) → (∀ x, x < n → J 28 x = mk (adj n (put2 a u w r) x)) → K J := by
    intro J j1 j2
    refine hK J (fun x hx => by rw [j1 x (by omega), q0 x (by omega) (by omega)]) ⟨by rw [j1 1 (by omega), q0 1 (by omega) (by omega)]; exact t1, by rw [j1 2 (by omega), q0 2 (by omega) (by omega)]; exact t2, fun x y hx hy => by rw [j1 (4 + x) (by omega)]; exact q1 x y hx hy, j2, by rw [j1 1 (by omega), q0 1 (by omega) (by omega)]; exact t5, fun x hx => by rw [j1 29 (by omega), q0 29 (by omega) (by omega)]; exact t6 x hx⟩
  have row : ∀ x, x < n → ∀ i, adj n (put2 a u w r) x i = if (x = u ∧ i = w ∨ x = w ∧ i = u) then (!decide (u = w) && !decide (r = 0)) else adj n a x i := by
    intro x hx i
    unfold adj put2
    by_cases h1 : x = u ∧ i = w
    · obtain ⟨rfl, rfl⟩ := h1; simp [hu, hw]
    · by_cases h2 : x = w ∧ i = u
      · obtain ⟨rfl, rfl⟩ := h2
        simp [hu, hw, eq_comm]
      · simp [h1, h2]
  refine ⟨fun q => ⟨fun q2 => ⟨hv u hu, hv u hu, fun I6 f6 => ⟨hv w hw, hv w hw, fun I7 f7 => fin I7 (fun x hx => by rw [f7, jwr_ne hx, f6, jwr_ne hx]) (fun x hx => ?_)⟩⟩, fun q2 => ⟨hv u hu, hv u hu, fun I6 f6 => ⟨hv w hw, hv w hw, fun I7 f7 => fin I7 (fun x hx => by rw [f7, jwr_ne hx, f6, jwr_ne hx]) (fun x hx => ?_)⟩⟩⟩, fun q => ?_⟩
  · have huw : u ≠ w := fun e => q (by rw [e])
    have hr0 : r = 0 := (nI_eq (by omega) (by omega)).mp q2
    rw [q28 u hu, mk_one (by omega), mk_diff] at f6
    have e6 : I6 28 w = mk (adj n a w) := by rw [f6, jwr_at, if_neg (by omega)]; exact q28 w hw
    rw [e6, mk_one (by omega), mk_diff] at f7
    rw [f7, jwr_at, f6, jwr_at]
    by_cases h1 : x = w
    · subst h1
      rw [if_pos ⟨rfl, rfl⟩]
      apply mk_ext; intro i _
      rw [row x hx i]
      by_cases h2 : i = u
      · subst h2; simp [hr0]
      · simp [h2, Ne.symm huw]
    · rw [if_neg (by omega)]
      by_cases h2 : x = u
      · subst h2
        rw [if_pos ⟨rfl, rfl⟩]
        apply mk_ext; intro i _
        rw [row x hx i]
        by_cases h3 : i = w
        · subst h3; simp [hr0]
        · simp [h3, huw]
      · rw [if_neg (by omega), q28 x hx]
        apply mk_ext; intro i _
        rw [row x hx i]; simp [h1, h2]
  · have huw : u ≠ w := fun e => q (by rw [e])
    have hr0 : r ≠ 0 := fun e => q2 (by rw [e]; rfl)
    rw [q28 u hu, mk_one (by omega), mk_or] at f6
    have e6 : I6 28 w = mk (adj n a w) := by rw [f6, jwr_at, if_neg (by omega)]; exact q28 w hw
    rw [e6, mk_one (by omega), mk_or] at f7
    rw [f7, jwr_at, f6, jwr_at]
    by_cases h1 : x = w
    · subst h1
      rw [if_pos ⟨rfl, rfl⟩]
      apply mk_ext; intro i _
      rw [row x hx i]
      by_cases h2 : i = u
      · subst h2; simp [hr0, huw]
      · simp [h2, Ne.symm huw]
    · rw [if_neg (by omega)]
      by_cases h2 : x = u
      · subst h2
        rw [if_pos ⟨rfl, rfl⟩]
        apply mk_ext; intro i _
        rw [row x hx i]
        by_cases h3 : i = w
        · subst h3; simp [hr0, huw]
        · simp [h3, huw]
      · rw [if_neg (by omega), q28 x hx]
        apply mk_ext; intro i _
        rw [row x hx i]; simp [h1, h2]
  · have huw : u = w := (nI_eq (by omega) (by omega)).mp q
    subst huw
    refine fin I5 (fun _ _ => rfl) (fun x hx => ?_)
    rw [q28 x hx]
    apply mk_ext; intro i _
    rw [row x hx i]
    by_cases h1 : x = u ∧ i = u
    · obtain ⟨rfl, rfl⟩ := h1; simp [adj_self]
    · simp [h1]
theorem OKs.put {n p : Nat} {a : Nat → Nat → Nat} {od pl sd : Nat → Nat} {gn : List Nat} (hok : OKs n p a od pl sd gn) {u w r : Nat} (hr : r < p) : OKs n p (put2 a u w r) od pl sd [] := by
  refine ⟨hok.1, hok.2.1, hok.2.2.1, hok.2.2.2.1, fun x y hx hy => ?_, hok.2.2.2.2.2.1, hok.2.2.2.2.2.2.1, List.nodup_nil, fun u hu => by cases hu⟩
  obtain ⟨h1, h2⟩ := hok.2.2.2.2.1 x y hx hy
  unfold put2
  constructor
  · split
    · exact hr
    · exact h1
  · by_cases h3 : (x = u ∧ y = w) ∨ (x = w ∧ y = u)
    · rw [if_pos h3, if_pos (by omega)]
    · rw [if_neg h3, if_neg (by omega)]; exact h2
/-- put(u, w, v) -/
theorem law_put {IX IM : jM} (h : RR IX IM) (a1 a2 a3 : Int32) : lawN_1 RR IX IM a1 a2 a3 := by
  obtain ⟨n, p, a, hd, od, pl, sd, gn, wd, hok, xt, xr, xf, xl, xg, xw, mt, mr, mg, mw, ml, hc⟩ := id h
  have hn := hok.2.1
  have hn1 := hok.1
  have hp := hok.2.2.2.1.1
  have hp2 := hok.2.2.1
  have hrX : ∀ K : Int32 → jM → Prop, K (-1) (jwr IX 99 1 (IX 99 1 + 1)) → OO_put_16 0 IX K := fun K hK => by
    unfold OO_put_16
    exact tX_refuse (k := 1) (by omega) (by omega) m1_eq hK
  have hrM : ∀ K : Int32 → jM → Prop, K (-1) (jwr IM 105 1 (IM 105 1 + 1)) → MD_put_16 100 IM K := fun K hK => by
    unfold MD_put_16
    exact tM_refuse (k := 1) (by omega) (by omega) m1_eq hK
  unfold lawN_1 OO_put
  rcases who a1 hn with ⟨u, hu, rfl⟩ | ⟨-, hx⟩
  · refine tX_isNobody_no hn xt.1 hu ⟨fun q => absurd rfl q, fun _ => ?_⟩
    rcases who a2 hn with ⟨w, hw, rfl⟩ | ⟨-, hx⟩
    · refine tX_isNobody_no hn xt.1 hw ⟨fun _ => ?_, fun q => absurd rfl q⟩
      simp only [jrs, jws3]
      refine ⟨vp_in_nI (by omega) (by omega), vp_in_nI (by omega) (by omega), fun v ev => ?_⟩
      rw [clamp (by omega), clamp (by omega), xt.2.2.1 u w hu hw] at ev
      refine tX_set hn hp hp2 xt hu hw a3 (fun J0 e0 xt0 => t_numbersChanged hn xt0 (fun JX eX x9 x10 xg2 w4 w5 => ?_))
      have hr := md_lt (show 0 < p by omega) a3.toInt
      unfold MD_put
      refine tM_isUnknown_yes hn mt.1 hu ⟨fun q => absurd q (by decide), fun _ => tM_isUnknown_yes hn mt.1 hw ⟨fun _ => ?_, fun q => absurd q (by decide)⟩⟩
      simp only [jrs]
      rw [show (24 : Int32) = nI 24 from rfl, pk_mul, nI_add, pk_mul, nI_add, clamp (by omega), clamp (by omega)]
      refine ⟨vp_in_nI (by omega) (by omega), fun v2 ev2 => t_modulo hp (by omega) mt.2.1 _ ⟨vp_in_nI (by omega) (by omega), fun M1 m1 => t_modulo hp (by omega) (by rw [m1, jwr_ne (by omega)]; exact mt.2.1) _ ⟨vp_in_nI (by omega) (by omega), fun M2 m2 => tM_notWorked (fun M3 k1 k2 k8 k9 M4 m4 => ?_)⟩⟩⟩
      rw [mt.2.2.1 u w hu hw] at ev2
      rw [Int32.toInt_toInt64] at m1 m2
      have g1 : ∀ x, x ≠ 100 → x ≠ 101 → M4 x = IM x := fun x h1 h2 => by rw [m4, jwr_ne h1, k1 x h1, m2, jwr_ne h2, m1, jwr_ne h2]
      have g2 : ∀ k, k ≠ 13 → k ≠ 18 → k ≠ 19 → M4 100 k = IM 100 k := fun k h1 h2 h3 => by rw [m4, jwr_at, if_neg (by omega), k2 k h2 h3, m2, jwr_ne (by omega), m1, jwr_ne (by omega)]
      have mt4 : MT n p (put2 a u w (md p a3.toInt)) hd sd M4 := by
        refine ⟨by rw [g2 0 (by omega) (by omega) (by omega)]; exact mt.1, by rw [g2 1 (by omega) (by omega) (by omega)]; exact mt.2.1, fun x y hx hy => ?_, fun x hx => by rw [g1 102 (by omega) (by omega)]; exact mt.2.2.2.1 x hx, fun x hx => by rw [g1 104 (by omega) (by omega)]; exact mt.2.2.2.2 x hx⟩
        rw [m4, jwr_ne (by omega), k1 101 (by omega), m2, jwr_at, m1, jwr_at]
        unfold put2
        by_cases h1 : x = w ∧ y = u
        · rw [if_pos (by omega), if_pos (Or.inr h1)]
        · rw [if_neg (by omega)]
          by_cases h2 : x = u ∧ y = w
          · rw [if_pos (by omega), if_pos (Or.inl h2)]
          · rw [if_neg (by omega), if_neg (by omega)]
            exact mt.2.2.1 x y hx hy
      have hok2 := hok.put (u := u) (w := w) hr
      refine tM_begin hn mt4 (okp hok2) (fun JM eM eM0 mg2 => ⟨by rw [ev, ev2], ?_⟩)
      refine rr_num (IX := IX) (IM := IM) (n := n) (p := p) (a := a) (hd := hd) hok2 (xt0.fr (fun c _ _ => eX c (by omega) (by omega)) hn) (xr.fr (fun c _ _ => by rw [eX c (by omega) (by omega), e0 c (by omega)])) x9 x10 xg2 w4 w5 (mt4.fr (eM0 0 (by omega)) (eM0 1 (by omega)) (eM 101 (by omega) (by omega) (by omega)) (eM 102 (by omega) (by omega) (by omega)) (eM 104 (by omega) (by omega) (by omega))) (mr.fr (by rw [eM 103 (by omega) (by omega) (by omega), g1 103 (by omega) (by omega)])) mg2 (by rw [eM0 18 (by omega), m4, jwr_at, if_neg (by omega)]; exact k8) (by rw [eM0 19 (by omega), m4, jwr_at, if_neg (by omega)]; exact k9) (by rw [eM0 13 (by omega), m4, jwr_at, if_pos ⟨rfl, rfl⟩]) (fun k h1 h6 => ?_)
      rw [eX 99 (by omega) (by omega), e0 99 (by omega), eM 105 (by omega) (by omega) (by omega), g1 105 (by omega) (by omega)]
      exact hc k h1 h6
    · refine tX_isNobody_yes xt.1 hx ⟨fun q => absurd q (by decide), fun _ => hrX _ ?_⟩
      unfold MD_put
      refine tM_isUnknown_yes hn mt.1 hu ⟨fun q => absurd q (by decide), fun _ => tM_isUnknown_no hn1 hn mt.1 hx ⟨fun q => absurd rfl q, fun _ => hrM _ ⟨rfl, h.refuse 1 (by omega) (by omega)⟩⟩⟩
  · refine tX_isNobody_yes xt.1 hx ⟨fun _ => hrX _ ?_, fun q => absurd q (by decide)⟩
    unfold MD_put
    exact tM_isUnknown_no hn1 hn mt.1 hx ⟨fun _ => hrM _ ⟨rfl, h.refuse 1 (by omega) (by omega)⟩, fun q => absurd rfl q⟩
