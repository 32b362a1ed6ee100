/-! ===== order(rule) ===== -/
section OD
variable {IX IM : jM} {n p : Nat} {a : Nat → Nat → Nat} {hd : Nat → Bool} {od pl sd : Nat → Nat} {gn : List Nat} {wd : Bool}
/-- the class puts the ORDER od2 -/
def arrX (n : Nat) (a : Nat → Nat → Nat) (IX : jM) (v : Int32) (od2 : Nat → Nat) : Prop := ∀ K : jM → Prop, (∀ J : jM, (∀ x, 1 ≤ x ∧ x ≤ 30 ∨ 64 ≤ x → J x = IX x) → XL n a J → XO od2 n J → K J) → OO_arrange 0 v IX K
def arrM (n : Nat) (a : Nat → Nat → Nat) (IM : jM) (v : Int32) (od2 : Nat → Nat) : Prop := ∀ K : Int32 → jM → Prop, (∀ J : jM, (∀ x, x = 101 ∨ x = 102 ∨ x = 104 ∨ x = 105 ∨ x = 111 ∨ x = 112 ∨ x = 113 → J x = IM x) → (∀ k, k = 0 ∨ k = 1 ∨ k = 15 → J 100 k = IM 100 k) → ML n a J → J 100 18 = 0 → J 100 19 = -9 → MR n od2 J → MD_order_216 100 J K) → MD_order_65 100 v IM K
theorem ord_fin {v : Int32} {od2 pl2 : Nat → Nat} (hok : OKs n p a od pl sd gn) (xt : XT n p a hd sd IX) (xr : XR n od pl IX) (xg : XG n a gn IX) (mt : MT n p a hd sd IM) (mg : MG n a gn IM) (hc : ∀ k, 1 ≤ k → k ≤ 6 → IX 99 k = IM 105 k) (ho2 : Perm n od2 pl2) (hX : arrX n a IX v od2) (hM : arrM n a IM v od2) (hgo : ∀ K : Int32 → jM → Prop, MD_order_65 100 v IM K → MD_order 100 v IM K) : OO_order_94 0 v IX (fun rx IX3 => MD_order 100 v IM (fun rm IM3 => rx = rm ∧ RR IX3 IM3)) := by
  have hn := hok.2.1
  have hs := hok.2.2.2.2.1
  unfold OO_order_94
  refine hX _ (fun J jf xl xo => t_orderChanged (fun J1 e1 e9 e10 w4 w5 => ?_))
  have xt1 : XT n p a hd sd J1 := xt.fr (fun c h1 h2 => by rw [e1 c (by omega) (by omega), jf c (by omega)]) hn
  have xr1 : XR n od2 pl2 J1 := (xo.xr ho2 (by rw [jf 30 (by omega)]; exact xr.1)).fr (fun c h1 h2 => e1 c (by omega) (by omega))
  refine t_fullNet hn hs ho2 xt1 xr1 (XF.no e9) (fun JX eX eX0 x9 xf2 => ⟨j55.1, j55.2, hgo _ (hM _ (fun JM0 mf mf0 ml m8 m9 mr => ?_))⟩)
  have mt0 : MT n p a hd sd JM0 := mt.fr (mf0 0 (by omega)) (mf0 1 (by omega)) (mf 101 (by omega)) (mf 102 (by omega)) (mf 104 (by omega))
  unfold MD_order_216 MD_fills
  refine tM_goThrough hn hs (okp hok) ho2 mt0 mr (fun JM eM eM0 mfn => ⟨?_, ?_⟩)
  · rcases xf2 with q | q
    · rw [x9] at q; exact absurd q (by decide)
    · rw [q.2.2.1, mfn.1, FL_eq]
  · exact rr_ord hok xt (xl.fr (by rw [eX0 10 (by omega), e10]) (fun c _ _ => by rw [eX c (by omega) (by omega), e1 c (by omega) (by omega)])) xg mt mg (ml.fr (eM0 13 (by omega)) (eM 110 (by omega) (by omega))) hc (fun x hx => by rw [eX x (by omega) (by omega), e1 x (by omega) (by omega), jf x (by omega)]) xf2 (by rw [eX 68 (by omega) (by omega)]; exact w4) (by rw [eX 68 (by omega) (by omega)]; exact w5) (xr1.fr (fun c _ _ => eX c (by omega) (by omega))) ho2 (fun x hx => by rw [eM x (by omega) (by omega)]; exact mf x hx) (fun k hk => by rw [eM0 k (by omega)]; exact mf0 k hk) (by rw [eM0 18 (by omega)]; exact m8) (by rw [eM0 19 (by omega)]; exact m9) (mr.fr (eM 103 (by omega) (by omega)))
theorem arrX_greedy {r : Nat} (hr : r ≤ 2) (hok : OKs n p a od pl sd gn) (xt : XT n p a hd sd IX) (xl : XL n a IX) : arrX n a IX (nI r) (so (pkG n a hd r)) := fun K hK => by
  unfold OO_arrange
  simp only [jrs]
  have hne : ∀ c : Nat, 3 ≤ c → c < 2 ^ 31 → ¬ nI r = nI c := fun c h1 h2 e => by
    have := (nI_eq (by omega) h2).mp e
    omega
  refine ⟨fun _ => ⟨fun _ => ⟨fun q => absurd q (hne 4 (by omega) (by omega)), fun _ => ⟨fun _ => t_greedy hr hok.2.1 hok.2.2.2.2.1 xt (fun J j1 xo => hK J (fun x hx => j1 x (by omega) (by omega) (by omega) (by omega)) (xl.fr (by rw [j1 0 (by omega) (by omega) (by omega) (by omega)]) (fun c _ _ => j1 c (by omega) (by omega) (by omega) (by omega))) xo), fun q => absurd q (hne 5 (by omega) (by omega))⟩⟩, fun q => absurd q (hne 3 (by omega) (by omega))⟩, fun q => absurd q (hne 6 (by omega) (by omega))⟩
theorem arrX_search (hok : OKs n p a od pl sd gn) (xt : XT n p a hd sd IX) (xl : XL n a IX) : arrX n a IX 3 (fun i => so (pkS n a) (n - 1 - i)) := fun K hK => by
  unfold OO_arrange
  simp only [jrs]
  exact ⟨fun _ => ⟨fun q => absurd trivial (by simpa using q), fun _ => t_search hok.1 hok.2.1 xt (fun J j1 xo => hK J (fun x hx => j1 x (by omega) (by omega)) (xl.fr (by rw [j1 0 (by omega) (by omega)]) (fun c _ _ => j1 c (by omega) (by omega))) xo)⟩, fun q => absurd q (by decide)⟩
theorem arrX_turn (hok : OKs n p a od pl sd gn) (xr : XR n od pl IX) (xl : XL n a IX) : arrX n a IX 6 (fun i => od (n - 1 - i)) := fun K hK => by
  have ho : Perm n od pl := hok.2.2.2.2.2.1
  unfold OO_arrange
  simp only [jrs]
  exact ⟨fun q => absurd trivial (by simpa using q), fun _ => t_turn hok.2.1 ho xr (fun J j1 xo => hK J (fun x hx => j1 x (by omega) (by omega)) (xl.fr (by rw [j1 0 (by omega) (by omega)]) (fun c _ _ => j1 c (by omega) (by omega))) xo)⟩
theorem arrX_least {w : Bool} (h12 : n ≤ 12) (hok : OKs n p a od pl sd gn) (xt : XT n p a hd sd IX) (xl : XL n a IX) : arrX n a IX (if w then 5 else 4) (so (pkL n a w)) := fun K hK => by
  have hn1 := hok.1
  have hs := hok.2.2.2.2.1
  have g49 : OO_arrange_49 0 (if w then 5 else 4) IX K := by
    unfold OO_arrange_49
    refine tX_known hn1 h12 hs xt xl (fun J eJ eJ0 xlJ tb => ⟨j36.1, j36.2, ?_⟩)
    have go : OO_arrange_71 36 1 30 (if w then 1 else 0) J K := by
      unfold OO_arrange_71
      exact t_walk hn1 h12 hs (xt.fr (fun c _ _ => eJ c (by omega) (by omega)) hok.2.1) tb (fun J2 j2 xo => hK J2 (fun x hx => by rw [j2 x (by omega) (by omega) (by omega) (by omega)]; exact eJ x (by omega) (by omega)) (xlJ.fr (by rw [j2 0 (by omega) (by omega) (by omega) (by omega)]) (fun c _ _ => j2 c (by omega) (by omega) (by omega) (by omega))) xo)
    simp only [jrs]
    cases w with
    | false => exact ⟨fun _ => go, fun q => absurd q (by decide)⟩
    | true => exact ⟨fun q => absurd rfl q, fun _ => go⟩
  unfold OO_arrange
  cases w with
  | false => exact ⟨fun _ => ⟨fun _ => ⟨fun _ => g49, fun q => absurd rfl q⟩, fun q => absurd q (by decide)⟩, fun q => absurd q (by decide)⟩
  | true => exact ⟨fun _ => ⟨fun _ => ⟨fun q => absurd q (by decide), fun _ => ⟨fun q => absurd rfl q, fun _ => g49⟩⟩, fun q => absurd q (by decide)⟩, fun q => absurd q (by decide)⟩
theorem arrM_0 (hok : OKs n p a od pl sd gn) (mt : MT n p a hd sd IM) (ml : ML n a IM) : arrM n a IM 0 (so (pkG n a hd 0)) := fun K hK => by
  unfold MD_order_65
  refine tM_notWorked (fun I1 i1 i2 i8 i9 => ⟨fun _ => ?_, fun q => absurd q (by decide), fun q => absurd q (by decide), fun q => absurd q (by decide), fun q => absurd q (by decide), fun q => absurd q (by decide), fun q => absurd rfl q⟩)
  refine tM_byNumbers hok.2.1 (mt.fr (i2 0 (by omega) (by omega)) (i2 1 (by omega) (by omega)) (i1 101 (by omega)) (i1 102 (by omega)) (i1 104 (by omega))) (fun J j1 j3 => hK J (fun x hx => by rw [j1 x (by omega), i1 x (by omega)]) (fun k hk => by rw [j1 100 (by omega), i2 k (by omega) (by omega)]) (ml.fr (by rw [j1 100 (by omega), i2 13 (by omega) (by omega)]) (by rw [j1 110 (by omega), i1 110 (by omega)])) (by rw [j1 100 (by omega)]; exact i8) (by rw [j1 100 (by omega)]; exact i9) j3)
theorem arrM_12 {b : Bool} (hok : OKs n p a od pl sd gn) (mt : MT n p a hd sd IM) (ml : ML n a IM) : arrM n a IM (nI (if b then 2 else 1)) (so (pkG n a hd (if b then 2 else 1))) := fun K hK => by
  unfold MD_order_65
  refine tM_notWorked (fun I1 i1 i2 i8 i9 => ?_)
  have mt1 : MT n p a hd sd I1 := mt.fr (i2 0 (by omega) (by omega)) (i2 1 (by omega) (by omega)) (i1 101 (by omega)) (i1 102 (by omega)) (i1 104 (by omega))
  have go : MD_order_126 100 100 (if b then 1 else 0) I1 K := by
    unfold MD_order_126
    exact tM_byFewest hok.2.1 hok.2.2.2.2.1 (okp hok) mt1 (fun J j1 j3 => hK J (fun x hx => by rw [j1 x (by omega) (by omega), i1 x (by omega)]) (fun k hk => by rw [j1 100 (by omega) (by omega), i2 k (by omega) (by omega)]) (ml.fr (by rw [j1 100 (by omega) (by omega), i2 13 (by omega) (by omega)]) (by rw [j1 110 (by omega) (by omega), i1 110 (by omega)])) (by rw [j1 100 (by omega) (by omega)]; exact i8) (by rw [j1 100 (by omega) (by omega)]; exact i9) j3)
  cases b with
  | false =>
    refine ⟨fun q => absurd q (by decide), fun _ => ?_, fun q => absurd q (by decide), fun q => absurd q (by decide), fun q => absurd q (by decide), fun q => absurd q (by decide), fun _ q => absurd rfl q⟩
    unfold MD_order_115
    exact ⟨fun _ => go, fun q => absurd q (by decide)⟩
  | true =>
    refine ⟨fun q => absurd q (by decide), fun q => absurd q (by decide), fun _ => ?_, fun q => absurd q (by decide), fun q => absurd q (by decide), fun q => absurd q (by decide), fun _ _ q => absurd rfl q⟩
    unfold MD_order_115
    exact ⟨fun q => absurd rfl q, fun _ => go⟩
theorem arrM_3 (hok : OKs n p a od pl sd gn) (mt : MT n p a hd sd IM) (ml : ML n a IM) : arrM n a IM 3 (fun i => so (pkS n a) (n - 1 - i)) := fun K hK => by
  unfold MD_order_65
  refine tM_notWorked (fun I1 i1 i2 i8 i9 => ⟨fun q => absurd q (by decide), fun q => absurd q (by decide), fun q => absurd q (by decide), fun _ => ?_, fun q => absurd q (by decide), fun q => absurd q (by decide), fun _ _ _ q => absurd rfl q⟩)
  exact tM_bySearch hok.1 hok.2.1 (okp hok) (mt.fr (i2 0 (by omega) (by omega)) (i2 1 (by omega) (by omega)) (i1 101 (by omega)) (i1 102 (by omega)) (i1 104 (by omega))) (fun J j1 j3 => hK J (fun x hx => by rw [j1 x (by omega) (by omega), i1 x (by omega)]) (fun k hk => by rw [j1 100 (by omega) (by omega), i2 k (by omega) (by omega)]) (ml.fr (by rw [j1 100 (by omega) (by omega), i2 13 (by omega) (by omega)]) (by rw [j1 110 (by omega) (by omega), i1 110 (by omega)])) (by rw [j1 100 (by omega) (by omega)]; exact i8) (by rw [j1 100 (by omega) (by omega)]; exact i9) j3)
theorem arrM_6 (hok : OKs n p a od pl sd gn) (mt : MT n p a hd sd IM) (mr : MR n od IM) (ml : ML n a IM) : arrM n a IM 6 (fun i => od (n - 1 - i)) := fun K hK => by
  unfold MD_order_65
  refine tM_notWorked (fun I1 i1 i2 i8 i9 => ⟨fun q => absurd q (by decide), fun q => absurd q (by decide), fun q => absurd q (by decide), fun q => absurd q (by decide), fun q => absurd q (by decide), fun q => absurd q (by decide), fun _ _ _ _ _ _ => ?_⟩)
  exact tM_turn hok.2.1 (by rw [i2 0 (by omega) (by omega)]; exact mt.1) (mr.fr (i1 103 (by omega))) (fun J j1 j3 => hK J (fun x hx => by rw [j1 x (by omega), i1 x (by omega)]) (fun k hk => by rw [j1 100 (by omega), i2 k (by omega) (by omega)]) (ml.fr (by rw [j1 100 (by omega), i2 13 (by omega) (by omega)]) (by rw [j1 110 (by omega), i1 110 (by omega)])) (by rw [j1 100 (by omega)]; exact i8) (by rw [j1 100 (by omega)]; exact i9) j3)
theorem arrM_45 {w : Bool} (h12 : n ≤ 12) (hok : OKs n p a od pl sd gn) (mt : MT n p a hd sd IM) (ml : ML n a IM) : arrM n a IM (if w then 5 else 4) (so (pkL n a w)) := fun K hK => by
  unfold MD_order_65
  refine tM_notWorked (fun I1 i1 i2 i8 i9 => ?_)
  have mt1 : MT n p a hd sd I1 := mt.fr (i2 0 (by omega) (by omega)) (i2 1 (by omega) (by omega)) (i1 101 (by omega)) (i1 102 (by omega)) (i1 104 (by omega))
  have ml1 : ML n a I1 := ml.fr (i2 13 (by omega) (by omega)) (i1 110 (by omega))
  have go : MD_order_150 100 100 (if w then 0 else 1) I1 K := by
    unfold MD_order_150
    exact tM_byLeast hok.1 h12 hok.2.2.2.2.1 (okp hok) mt1 ml1 (fun J j1 j0 ml2 j3 => hK J (fun x hx => by rw [j1 x (by omega) (by omega) (by omega) (by omega), i1 x (by omega)]) (fun k hk => by rw [j0 k (by omega), i2 k (by omega) (by omega)]) ml2 (by rw [j0 18 (by omega)]; exact i8) (by rw [j0 19 (by omega)]; exact i9) j3)
  cases w with
  | false =>
    refine ⟨fun q => absurd q (by decide), fun q => absurd q (by decide), fun q => absurd q (by decide), fun q => absurd q (by decide), fun _ => ?_, fun q => absurd q (by decide), fun _ _ _ _ q => absurd rfl q⟩
    unfold MD_order_139
    exact ⟨fun q => absurd rfl q, fun _ => go⟩
  | true =>
    refine ⟨fun q => absurd q (by decide), fun q => absurd q (by decide), fun q => absurd q (by decide), fun q => absurd q (by decide), fun q => absurd q (by decide), fun _ => ?_, fun _ _ _ _ _ q => absurd rfl q⟩
    unfold MD_order_139
    exact ⟨fun _ => go, fun q => absurd q (by decide)⟩
end OD
/-- order(rule) -/
theorem law_order {IX IM : jM} (h : RR IX IM) (a1 a2 a3 : Int32) : lawN_4 RR IX IM a1 a2 a3 := by
  obtain ⟨n, p, a, hd, od, pl, sd, gn, wd, hok, xt, xr, xf, xl, xg, xw, mt, mr, mg, mw, ml, hc⟩ := id h
  have hn := hok.2.1
  have ho : Perm n od pl := hok.2.2.2.2.2.1
  have hheld : (IX 1 5 = 0) ↔ ¬ ∃ u, u < n ∧ hd u = true := by
    rw [xt.2.2.2.2.1, mk_zero]
    constructor
    · rintro hh ⟨u, h1, h2⟩
      have := hh u (by omega)
      simp [h1, h2] at this
    · intro hh i hi
      cases h2 : hd i with
      | false => simp
      | true =>
        by_cases h1 : i < n
        · exact absurd ⟨i, h1, h2⟩ hh
        · simp [h1]
  unfold lawN_4
  -- what both do with a rule that is free
  have free : ∀ (v : Int32) (od2 pl2 : Nat → Nat), Perm n od2 pl2 → arrX n a IX v od2 → arrM n a IM v od2 → ¬ v = 4 → ¬ v = 5 → (v < 3 ∨ v = 6) → ¬ v < 0 → v ≤ 6 → (v < 3 ∨ 5 < v) → OO_order 0 v IX (fun rx IX3 => MD_order 100 v IM (fun rm IM3 => rx = rm ∧ RR IX3 IM3)) := by
    intro v od2 pl2 hp2 hx hm n4 n5 hf hlo hhi hf2
    have hgo : ∀ K : Int32 → jM → Prop, MD_order_65 100 v IM K → MD_order 100 v IM K := fun K hK => by
      unfold MD_order
      refine tM_in_yes hlo (fun q => ?_) ⟨fun _ => tM_in_no hf2 ⟨fun _ => ?_, fun q => absurd rfl q⟩, fun q => absurd q (by decide)⟩
      · rw [Int32.lt_iff_toInt_lt] at q
        rw [Int32.le_iff_toInt_le] at hhi
        omega
      · unfold MD_order_40
        refine tM_in_no ?_ ⟨fun _ => hK, fun q => absurd rfl q⟩
        rcases hf2 with q | q
        · left
          rw [Int32.lt_iff_toInt_lt] at q ⊢
          have e3 : (3 : Int32).toInt = 3 := by decide
          have e4 : (4 : Int32).toInt = 4 := by decide
          omega
        · exact Or.inr q
    have g94 := ord_fin hok xt xr xg mt mg hc hp2 hx hm hgo
    have g55 : OO_order_55 0 v IX (fun rx IX3 => MD_order 100 v IM (fun rm IM3 => rx = rm ∧ RR IX3 IM3)) := by
      unfold OO_order_55 OO_order_70
      exact ⟨fun q => absurd q n4, fun _ => ⟨fun _ => ⟨fun _ => g94, fun q => absurd rfl q⟩, fun q => absurd q n5⟩⟩
    unfold OO_order OO_order_33
    refine ⟨fun q => absurd q hlo, fun _ => ⟨fun _ => ⟨fun _ => ⟨fun _ => g55, fun q => absurd q (by decide)⟩, fun q => ⟨fun q2 => ?_, fun _ => ⟨fun _ => g55, fun q => absurd q (by decide)⟩⟩⟩, fun q => absurd hhi q⟩⟩
    rcases hf with q3 | q3
    · exact absurd q3 q
    · exact absurd q3 q2
  -- the rules that want none HELD
  have held5 : ∀ v : Int32, ¬ v < 3 → ¬ 5 < v → ¬ v < 0 → v ≤ 6 → ¬ v = 6 → (∃ u, u < n ∧ hd u = true) → OO_order 0 v IX (fun rx IX3 => MD_order 100 v IM (fun rm IM3 => rx = rm ∧ RR IX3 IM3)) := by
    intro v h3 h5 hlo hhi h6 hex
    have hnz : ¬ IX 1 5 = 0 := fun q => (hheld.mp q) hex
    unfold OO_order OO_order_33
    simp only [jrs]
    refine ⟨fun q => absurd q hlo, fun _ => ⟨fun _ => ⟨fun q => absurd q h3, fun _ => ⟨fun _ => ⟨fun q => absurd trivial (by simpa using q), fun _ => ⟨fun q => absurd q hnz, fun _ => tX_refuse (k := 5) (by omega) (by omega) m5_eq ?_⟩⟩, fun q => absurd q h6⟩⟩, fun q => absurd hhi q⟩⟩
    unfold MD_order
    refine tM_in_yes hlo (fun q => ?_) ⟨fun _ => tM_in_yes h3 h5 ⟨fun q => absurd q (by decide), fun _ => tM_someHeld hn mt (fun _ => ⟨fun q => absurd q (by decide), fun _ => tM_refuse (k := 5) (by omega) (by omega) m5_eq ⟨rfl, h.refuse 5 (by omega) (by omega)⟩⟩) (fun hno => absurd hex hno)⟩, fun q => absurd q (by decide)⟩
    rw [Int32.lt_iff_toInt_lt] at q
    rw [Int32.le_iff_toInt_le] at hhi
    omega
  by_cases hneg : a1 < 0
  · unfold OO_order OO_order_10
    refine ⟨fun _ => tX_refuse (k := 2) (by omega) (by omega) m2_eq ?_, fun q => absurd hneg q⟩
    unfold MD_order
    exact tM_in_no (Or.inl hneg) ⟨fun q => absurd rfl q, fun _ => tM_refuse (k := 2) (by omega) (by omega) m2_eq ⟨rfl, h.refuse 2 (by omega) (by omega)⟩⟩
  obtain ⟨j, hj, rfl⟩ := nI_of hneg
  by_cases h6 : j ≤ 6
  · have hcase : j = 0 ∨ j = 1 ∨ j = 2 ∨ j = 3 ∨ j = 4 ∨ j = 5 ∨ j = 6 := by omega
    rcases hcase with rfl | rfl | rfl | rfl | rfl | rfl | rfl
    · exact free 0 _ _ (so_perm (pkG_ok n a hd 0)) (arrX_greedy (r := 0) (by omega) hok xt xl) (arrM_0 hok mt ml) (by decide) (by decide) (by decide) (by decide) (by decide) (by decide)
    · exact free 1 _ _ (so_perm (pkG_ok n a hd 1)) (arrX_greedy (r := 1) (by omega) hok xt xl) (arrM_12 (b := false) hok mt ml) (by decide) (by decide) (by decide) (by decide) (by decide) (by decide)
    · exact free 2 _ _ (so_perm (pkG_ok n a hd 2)) (arrX_greedy (r := 2) (by omega) hok xt xl) (arrM_12 (b := true) hok mt ml) (by decide) (by decide) (by decide) (by decide) (by decide) (by decide)
    · -- SEARCH
      by_cases hex : ∃ u, u < n ∧ hd u = true
      · exact held5 3 (by decide) (by decide) (by decide) (by decide) (by decide) hex
      · have hz : IX 1 5 = 0 := hheld.mpr hex
        have hgo : ∀ K : Int32 → jM → Prop, MD_order_65 100 3 IM K → MD_order 100 3 IM K := fun K hK => by
          have g40 : MD_order_40 100 3 IM K := by
            unfold MD_order_40
            exact tM_in_no (by decide) ⟨fun _ => hK, fun q => absurd rfl q⟩
          unfold MD_order
          exact tM_in_yes (by decide) (by decide) ⟨fun _ => tM_in_yes (by decide) (by decide) ⟨fun q => absurd q (by decide), fun _ => tM_someHeld hn mt (fun hh => absurd hh hex) (fun _ => ⟨fun _ => g40, fun q => absurd rfl q⟩)⟩, fun q => absurd q (by decide)⟩
        have g94 := ord_fin hok xt xr xg mt mg hc (rev_perm (so_perm (pkS_ok n a))) (arrX_search hok xt xl) (arrM_3 hok mt ml) hgo
        have g55 : OO_order_55 0 3 IX (fun rx IX3 => MD_order 100 3 IM (fun rm IM3 => rx = rm ∧ RR IX3 IM3)) := by
          unfold OO_order_55 OO_order_70
          exact ⟨fun q => absurd q (by decide), fun _ => ⟨fun _ => ⟨fun _ => g94, fun q => absurd rfl q⟩, fun q => absurd q (by decide)⟩⟩
        show OO_order 0 3 IX (fun rx IX3 => MD_order 100 3 IM (fun rm IM3 => rx = rm ∧ RR IX3 IM3))
        unfold OO_order OO_order_33
        simp only [jrs]
        exact ⟨fun q => absurd q (by decide), fun _ => ⟨fun _ => ⟨fun q => absurd q (by decide), fun _ => ⟨fun _ => ⟨fun q => absurd trivial (by simpa using q), fun _ => ⟨fun _ => g55, fun q => absurd hz q⟩⟩, fun q => absurd q (by decide)⟩⟩, fun q => absurd (by decide) q⟩⟩
    · -- LEAST FILL
      have key : ∀ w : Bool, ∀ v : Int32, v = (if w then 5 else 4) → OO_order 0 v IX (fun rx IX3 => MD_order 100 v IM (fun rm IM3 => rx = rm ∧ RR IX3 IM3)) := by
        intro w v hv
        have hvd : ¬ v < 3 ∧ ¬ 5 < v ∧ ¬ v < 0 ∧ v ≤ 6 ∧ ¬ v = 6 ∧ ¬ 6 < v ∧ ¬ v < 4 ∧ (¬ v = 4 → v = 5) := by cases w <;> rw [hv] <;> decide
        obtain ⟨d1, d2, d3, d4, d5, d6, d7, d8⟩ := hvd
        by_cases hex : ∃ u, u < n ∧ hd u = true
        · exact held5 v d1 d2 d3 d4 d5 hex
        · have hz : IX 1 5 = 0 := hheld.mpr hex
          have g55 : OO_order_55 0 v IX (fun rx IX3 => MD_order 100 v IM (fun rm IM3 => rx = rm ∧ RR IX3 IM3)) := by
            have g70 : OO_order_70 0 v 1 IX (fun rx IX3 => MD_order 100 v IM (fun rm IM3 => rx = rm ∧ RR IX3 IM3)) := by
              unfold OO_order_70
              simp only [jrs]
              rw [xt.1]
              refine ⟨fun q => absurd q (by decide), fun _ => ⟨fun q => ?_, fun q => tX_refuse (k := 6) (by omega) (by omega) m6_eq ?_⟩⟩
              · have h12 : n ≤ 12 := (nI_leI (a := n) (b := 12) (by omega) (by omega)).mp q
                have hgo : ∀ K : Int32 → jM → Prop, MD_order_65 100 v IM K → MD_order 100 v IM K := fun K hK => by
                  have g40 : MD_order_40 100 v IM K := by
                    unfold MD_order_40
                    refine tM_in_yes d7 d2 ⟨fun q => absurd q (by decide), fun _ => ?_⟩
                    rw [mt.1]
                    exact ⟨fun _ => hK, fun q2 => absurd q q2⟩
                  unfold MD_order
                  exact tM_in_yes d3 d6 ⟨fun _ => tM_in_yes d1 d2 ⟨fun q => absurd q (by decide), fun _ => tM_someHeld hn mt (fun hh => absurd hh hex) (fun _ => ⟨fun _ => g40, fun q => absurd rfl q⟩)⟩, fun q => absurd q (by decide)⟩
                have hxx := arrX_least (w := w) h12 hok xt xl
                have hmm := arrM_45 (w := w) h12 hok mt ml
                rw [← hv] at hxx hmm
                exact ord_fin hok xt xr xg mt mg hc (so_perm (pkL_ok n a w)) hxx hmm hgo
              · have g40 : MD_order_40 100 v IM (fun rm IM3 => (-6 : Int32) = rm ∧ RR (jwr IX 99 6 (IX 99 6 + 1)) IM3) := by
                  unfold MD_order_40
                  refine tM_in_yes d7 d2 ⟨fun q => absurd q (by decide), fun _ => ?_⟩
                  rw [mt.1]
                  exact ⟨fun q2 => absurd q2 q, fun _ => tM_refuse (k := 6) (by omega) (by omega) m6_eq ⟨rfl, h.refuse 6 (by omega) (by omega)⟩⟩
                unfold MD_order
                exact tM_in_yes d3 d6 ⟨fun _ => tM_in_yes d1 d2 ⟨fun q => absurd q (by decide), fun _ => tM_someHeld hn mt (fun hh => absurd hh hex) (fun _ => ⟨fun _ => g40, fun q => absurd rfl q⟩)⟩, fun q => absurd q (by decide)⟩
            unfold OO_order_55
            exact ⟨fun _ => g70, fun q => ⟨fun q2 => absurd (d8 q) q2, fun _ => g70⟩⟩
          unfold OO_order OO_order_33
          simp only [jrs]
          exact ⟨fun q => absurd q d3, fun _ => ⟨fun _ => ⟨fun q => absurd q d1, fun _ => ⟨fun _ => ⟨fun q => absurd trivial (by simpa using q), fun _ => ⟨fun _ => g55, fun q => absurd hz q⟩⟩, fun q => absurd q d5⟩⟩, fun q => absurd d4 q⟩⟩
      exact key false 4 rfl
    · -- LEAST WIDTH
      have key : ∀ w : Bool, ∀ v : Int32, v = (if w then 5 else 4) → OO_order 0 v IX (fun rx IX3 => MD_order 100 v IM (fun rm IM3 => rx = rm ∧ RR IX3 IM3)) := by
        intro w v hv
        have hvd : ¬ v < 3 ∧ ¬ 5 < v ∧ ¬ v < 0 ∧ v ≤ 6 ∧ ¬ v = 6 ∧ ¬ 6 < v ∧ ¬ v < 4 ∧ (¬ v = 4 → v = 5) := by cases w <;> rw [hv] <;> decide
        obtain ⟨d1, d2, d3, d4, d5, d6, d7, d8⟩ := hvd
        by_cases hex : ∃ u, u < n ∧ hd u = true
        · exact held5 v d1 d2 d3 d4 d5 hex
        · have hz : IX 1 5 = 0 := hheld.mpr hex
          have g55 : OO_order_55 0 v IX (fun rx IX3 => MD_order 100 v IM (fun rm IM3 => rx = rm ∧ RR IX3 IM3)) := by
            have g70 : OO_order_70 0 v 1 IX (fun rx IX3 => MD_order 100 v IM (fun rm IM3 => rx = rm ∧ RR IX3 IM3)) := by
              unfold OO_order_70
              simp only [jrs]
              rw [xt.1]
              refine ⟨fun q => absurd q (by decide), fun _ => ⟨fun q => ?_, fun q => tX_refuse (k := 6) (by omega) (by omega) m6_eq ?_⟩⟩
              · have h12 : n ≤ 12 := (nI_leI (a := n) (b := 12) (by omega) (by omega)).mp q
                have hgo : ∀ K : Int32 → jM → Prop, MD_order_65 100 v IM K → MD_order 100 v IM K := fun K hK => by
                  have g40 : MD_order_40 100 v IM K := by
                    unfold MD_order_40
                    refine tM_in_yes d7 d2 ⟨fun q => absurd q (by decide), fun _ => ?_⟩
                    rw [mt.1]
                    exact ⟨fun _ => hK, fun q2 => absurd q q2⟩
                  unfold MD_order
                  exact tM_in_yes d3 d6 ⟨fun _ => tM_in_yes d1 d2 ⟨fun q => absurd q (by decide), fun _ => tM_someHeld hn mt (fun hh => absurd hh hex) (fun _ => ⟨fun _ => g40, fun q => absurd rfl q⟩)⟩, fun q => absurd q (by decide)⟩
                have hxx := arrX_least (w := w) h12 hok xt xl
                have hmm := arrM_45 (w := w) h12 hok mt ml
                rw [← hv] at hxx hmm
                exact ord_fin hok xt xr xg mt mg hc (so_perm (pkL_ok n a w)) hxx hmm hgo
              · have g40 : MD_order_40 100 v IM (fun rm IM3 => (-6 : Int32) = rm ∧ RR (jwr IX 99 6 (IX 99 6 + 1)) IM3) := by
                  unfold MD_order_40
                  refine tM_in_yes d7 d2 ⟨fun q => absurd q (by decide), fun _ => ?_⟩
                  rw [mt.1]
                  exact ⟨fun q2 => absurd q2 q, fun _ => tM_refuse (k := 6) (by omega) (by omega) m6_eq ⟨rfl, h.refuse 6 (by omega) (by omega)⟩⟩
                unfold MD_order
                exact tM_in_yes d3 d6 ⟨fun _ => tM_in_yes d1 d2 ⟨fun q => absurd q (by decide), fun _ => tM_someHeld hn mt (fun hh => absurd hh hex) (fun _ => ⟨fun _ => g40, fun q => absurd rfl q⟩)⟩, fun q => absurd q (by decide)⟩
            unfold OO_order_55
            exact ⟨fun _ => g70, fun q => ⟨fun q2 => absurd (d8 q) q2, fun _ => g70⟩⟩
          unfold OO_order OO_order_33
          simp only [jrs]
          exact ⟨fun q => absurd q d3, fun _ => ⟨fun _ => ⟨fun q => absurd q d1, fun _ => ⟨fun _ => ⟨fun q => absurd trivial (by simpa using q), fun _ => ⟨fun _ => g55, fun q => absurd hz q⟩⟩, fun q => absurd q d5⟩⟩, fun q => absurd d4 q⟩⟩
      exact key true 5 rfl
    · exact free 6 _ _ (rev_perm ho) (arrX_turn hok xr xl) (arrM_6 hok mt mr ml) (by decide) (by decide) (by decide) (by decide) (by decide) (by decide)
  · have hbig : ¬ nI j ≤ 6 := fun q => h6 ((nI_leI (a := j) (b := 6) hj (by omega)).mp q)
    unfold OO_order OO_order_10
    refine ⟨fun q => absurd q hneg, fun _ => ⟨fun q => absurd q hbig, fun _ => tX_refuse (k := 2) (by omega) (by omega) m2_eq ?_⟩⟩
    unfold MD_order
    exact tM_in_no (Or.inr (nI_lt (a := 6) (by omega) hj)) ⟨fun q => absurd rfl q, fun _ => tM_refuse (k := 2) (by omega) (by omega) m2_eq ⟨rfl, h.refuse 2 (by omega) (by omega)⟩⟩
