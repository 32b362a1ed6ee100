/-! ===== findLeast, least ===== -/
theorem j36 : (36 ∈ jLX) ∧ jk 36 = 2 := by decide +kernel
theorem mnn_none {q : Nat → Bool} {v : Nat → Nat} : ∀ {k : Nat}, (∀ u, u < k → q u = false) → mnn q v k = 576
  | 0, _ => rfl
  | k + 1, h => by rw [mnn_succ, h k (by omega), if_neg (by decide)]; exact mnn_none (fun u hu => h u (by omega))
section FL2
variable {n p : Nat} {a : Nat → Nat → Nat} {hd : Nat → Bool} {od pl sd : Nat → Nat} {I : jM}
theorem lsb_step (b : Bool) (hn1 : 1 ≤ n) {m : Nat} (hm : m < 2 ^ n) (he : m ≠ 2 ^ n - 1) : lsb b n a m = mnn (fun u => !m.testBit u) (fun u => jo b (cs b n a m u) (lsb b n a (m ||| 2 ^ u))) n := by
  cases b with
  | false => exact lsW_step hn1 hm he
  | true => exact lsL_step hn1 hm he
theorem lsb_bd (b : Bool) (hn1 : 1 ≤ n) (hn : n ≤ 12) (hs : ∀ u w, u < n → w < n → a u w < p ∧ a u w = a w u) {m : Nat} (hm : m < 2 ^ n) : lsb b n a m ≤ 288 := by
  have h := ls_bounds hn1 hn hs hm
  unfold lsb
  split <;> omega
theorem jo_bd (b : Bool) {x y : Nat} (hx : x ≤ 288) (hy : y ≤ 288) : jo b x y ≤ 576 := by
  unfold jo
  split <;> omega
theorem all_nI (hn : n ≤ 12) : (1 : Int32) <<< (nI n &&& 31) - 1 = nI (2 ^ n - 1) := by
  have h4096 := pw12 hn
  rw [mk_all n (by omega), nI_mk (by omega)]
  apply mk_ext
  intro i _
  rw [Nat.testBit_two_pow_sub_one]
theorem tM_find31 {b : Bool} (hn1 : 1 ≤ n) (hn : n ≤ 12) (hs : ∀ u w, u < n → w < n → a u w < p ∧ a u w = a w u) (h0 : I 100 0 = nI n) (h6 : ∀ w, w < n → I 106 w = mk (adj n a w)) {K : jM → Prop} (hK : ∀ J : jM, (∀ x, x ≠ 100 → x ≠ 110 → J x = I x) → (∀ k, k ≠ 13 → J 100 k = I 100 k) → J 100 13 = (if b then 1 else 0) → (∀ m, m < 2 ^ n → J 110 m = nI (lsb b n a m)) → K J) : MD_findLeast_31 100 (if b then 1 else 0) 100 (if b then 1 else 0) I K := by
  have h4096 := pw12 hn
  have hpos : 2 ≤ 2 ^ n := by
    have := Nat.pow_le_pow_right (n := 2) (by decide) hn1
    omega
  unfold MD_findLeast_31
  intro I1 e1 v2 e2
  have i0 : I1 100 0 = nI n := by rw [e1, jwr_at, if_neg (by omega)]; exact h0
  rw [i0, all_nI hn] at e2
  subst e2
  simp only [jrs]
  rw [clamp (show 2 ^ n - 1 < 2 ^ 31 by omega)]
  refine ⟨vp_in_nI (by omega) (by omega), fun I3 e3 v3 ev3 => ?_⟩
  subst ev3
  have i3 : ∀ x, x ≠ 100 → x ≠ 110 → I3 x = I x := fun x h1 h2 => by rw [e3, jwr_ne h2, e1, jwr_ne h1]
  have i30 : ∀ k, k ≠ 13 → I3 100 k = I 100 k := fun k hk => by rw [e3, jwr_ne (by omega), e1, jwr_at, if_neg (by omega)]
  have i13 : I3 100 13 = (if b then 1 else 0) := by rw [e3, jwr_ne (by omega), e1, jwr_at, if_pos ⟨rfl, rfl⟩]
  unfold MD_findLeast_54
  refine lp_n2 (2 ^ n - 1) (fun t v J => v = nI (2 ^ n - 1 - t) - 1 ∧ (∀ x, x ≠ 110 → J x = I3 x) ∧ ∀ m, 2 ^ n - 1 - t ≤ m → m < 2 ^ n → J 110 m = nI (lsb b n a m)) ?_ ?_ (Nat.zero_le _) ⟨rfl, fun _ _ => rfl, fun m h1 h2 => by
    have e : m = 2 ^ n - 1 := by omega
    rw [e3, jwr_at, if_pos ⟨rfl, e⟩, e]
    have : lsb b n a (2 ^ n - 1) = 0 := by
      cases b with
      | false => exact ls_all hn1
      | true => exact ls_all hn1
    rw [this]; rfl⟩
  · rintro t v J X ht ⟨rfl, j1, j2⟩ go
    obtain ⟨m, hme⟩ : ∃ m, m = 2 ^ n - 1 - (t + 1) := ⟨_, rfl⟩
    have hm : m < 2 ^ n := by omega
    have hm24 : m < 2 ^ 24 := by omega
    have hall : m ≠ 2 ^ n - 1 := by omega
    have e0 : nI (2 ^ n - 1 - t) - 1 = nI m := by rw [nI_dn ht, hme]
    rw [e0]
    have m0 : J 100 0 = nI n := by rw [j1 100 (by omega), i30 0 (by omega)]; exact h0
    have m6 : ∀ w, w < n → J 106 w = mk (adj n a w) := fun w hw => by rw [j1 106 (by omega), i3 106 (by omega) (by omega)]; exact h6 w hw
    unfold MD_findLeast_54b
    dsimp only
    refine ⟨fun q => absurd q (nI_pos (by omega)), fun _ => ?_⟩
    unfold MD_findLeast_64
    obtain ⟨V, hV⟩ : ∃ V : Nat → Nat, V = fun u => jo b (cs b n a m u) (lsb b n a (m ||| 2 ^ u)) := ⟨_, rfl⟩
    have hst := lsb_step (a := a) b hn1 hm hall
    rw [← hV] at hst
    refine lp_n2 n (fun k x v => v = nI k ∧ ((x = -1 ∧ ∀ u, u < k → (!m.testBit u) = false) ∨ x = nI (mnn (fun u => !m.testBit u) V k))) ?_ ?_ (Nat.zero_le n) ⟨rfl, Or.inl ⟨rfl, fun u h => absurd h (Nat.not_lt_zero u)⟩⟩
    · rintro k x v X2 hk ⟨rfl, hx⟩ go2
      unfold MD_findLeast_64b
      dsimp only
      simp only [jrs]
      rw [m0, set_tst hm24 (by omega), set_or hm24 (by omega)]
      refine ⟨fun q => absurd q (ge_no hk (by omega)), fun _ => ⟨fun q => go2 _ _ ⟨nI_1 k, ?_⟩, fun q => tM_costOf (by omega) hs hm hk q m0 m6 ?_⟩⟩
      · have hq : (!m.testBit k) = false := by simpa using q
        rw [mnn_succ, hq, if_neg (by decide)]
        rcases hx with ⟨h1, h2⟩ | h1
        · refine Or.inl ⟨h1, fun u hu => ?_⟩
          by_cases e : u = k
          · rw [e]; exact hq
          · exact h2 u (by omega)
        · exact Or.inr h1
      · have hnx := or_lt hm hk
        have hgt : m < m ||| 2 ^ k := by
          have h1 : m ≤ m ||| 2 ^ k := Nat.left_le_or
          rcases Nat.lt_or_ge m (m ||| 2 ^ k) with h | h
          · exact h
          · have h2 : m ||| 2 ^ k = m := by omega
            have h3 := fb_bit_set m k k
            rw [h2, q] at h3; simp at h3
        have b1 := cs_le (n := n) (a := a) b m k
        have b2 := lsb_bd b hn1 hn hs hnx
        have b3 : V k ≤ 576 := by rw [hV]; exact jo_bd b b1 b2
        have b4 := (mnn_min (q := fun u => !m.testBit u) (v := V) (k := k)).1
        rw [clamp (show m ||| 2 ^ k < 2 ^ 31 by omega), j2 _ (by omega) hnx]
        refine ⟨vp_in_nI (by omega) (by omega), tM_joined (by omega) (by omega) ?_⟩
        have eV : jo b (cs b n a m k) (lsb b n a (m ||| 2 ^ k)) = V k := by rw [hV]
        rw [eV]
        have hsu : mnn (fun u => !m.testBit u) V (k + 1) = min (mnn (fun u => !m.testBit u) V k) (V k) := by rw [mnn_succ, if_pos (by simp [q])]
        rcases hx with ⟨h1, h2⟩ | h1
        · subst h1
          refine ⟨fun _ => go2 _ _ ⟨nI_1 k, Or.inr ?_⟩, fun q2 => absurd (by decide) q2⟩
          rw [hsu, mnn_none h2, show min 576 (V k) = V k by omega]
        · subst h1
          rw [nI_leI (by omega) (by omega)]
          refine ⟨fun q2 => absurd q2 (nI_pos (by omega)), fun _ => ⟨fun q2 => go2 _ _ ⟨nI_1 k, Or.inr ?_⟩, fun q2 => go2 _ _ ⟨nI_1 k, Or.inr ?_⟩⟩⟩
          · rw [hsu, show min (mnn (fun u => !m.testBit u) V k) (V k) = mnn (fun u => !m.testBit u) V k by omega]
          · rw [hsu, show min (mnn (fun u => !m.testBit u) V k) (V k) = V k by omega]
    · rintro x v X2 ⟨rfl, hx⟩
      have hx2 : x = nI (lsb b n a m) := by
        rcases hx with ⟨-, h2⟩ | h1
        · exfalso
          apply hall
          apply rm_zero hm
          exact fb_ct_zero.mpr h2
        · rw [h1, hst]
      subst hx2
      unfold MD_findLeast_64b
      dsimp only
      simp only [jrs]
      rw [m0, clamp (show m < 2 ^ 31 by omega)]
      refine ⟨fun _ => ⟨vp_in_nI (by omega) (by omega), fun J4 f4 => go _ _ ⟨?_, fun x hx => by rw [f4, jwr_ne hx]; exact j1 x hx, fun m' h1 h2 => ?_⟩⟩, fun q => absurd (nI_le (Nat.le_refl n) (by omega)) q⟩
      · rw [nI_m1, hme]
      · rw [f4, jwr_at]
        by_cases e : m' = m
        · rw [if_pos ⟨rfl, e⟩, e]
        · rw [if_neg (fun e2 => e e2.2)]; exact j2 m' (by omega) h2
  · rintro v J X ⟨rfl, j1, j2⟩
    unfold MD_findLeast_54b
    dsimp only
    rw [Nat.sub_self]
    exact ⟨fun _ => hK J (fun x h1 h2 => (j1 x h2).trans (i3 x h1 h2)) (fun k hk => by rw [j1 100 (by omega)]; exact i30 k hk) (by rw [j1 100 (by omega)]; exact i13) (fun m hm => j2 m (by omega) hm), fun q => absurd (by decide) q⟩
theorem tM_findLeast {b : Bool} (hn1 : 1 ≤ n) (hn : n ≤ 12) (hs : ∀ u w, u < n → w < n → a u w < p ∧ a u w = a w u) (hlt : ∀ u w, u < n → w < n → a u w < 2 ^ 31) (mt : MT n p a hd sd I) (ml : ML n a I) {K : jM → Prop} (hK : ∀ J : jM, (∀ x, x ≠ 100 → x ≠ 106 → x ≠ 110 → J x = I x) → (∀ k, k ≠ 13 → J 100 k = I 100 k) → (∀ w, w < n → J 106 w = mk (adj n a w)) → J 100 13 = (if b then 1 else 0) → (∀ m, m < 2 ^ n → J 110 m = nI (lsb b n a m)) → K J) : MD_findLeast 100 (if b then 1 else 0) I K := by
  unfold MD_findLeast
  refine tM_beginNet (by omega) mt (fun J0 j0 j6 => ?_) hlt
  have g17 : MD_findLeast_17 100 (if b then 1 else 0) (J0 100 13) (if b then 1 else 0) J0 K := by
    unfold MD_findLeast_17
    have mk31 : MD_findLeast_31 100 (if b then 1 else 0) 100 (if b then 1 else 0) J0 K := tM_find31 hn1 hn hs (by rw [j0 100 (by omega)]; exact mt.1) j6 (fun J j1 j2 j3 j4 => hK J (fun x h1 h2 h3 => (j1 x h1 h3).trans (j0 x h2)) (fun k hk => by rw [j2 k hk, j0 100 (by omega)]) (fun w hw => by rw [j1 106 (by omega) (by omega)]; exact j6 w hw) j3 j4)
    refine ⟨fun _ => ⟨fun q => ?_, fun q => ?_⟩, fun q => ?_⟩
    · cases b with
      | false => exact mk31
      | true => exact absurd q (by decide)
    · cases b with
      | false => exact absurd rfl q
      | true => exact mk31
    · refine hK J0 (fun x _ h2 _ => j0 x h2) (fun k _ => by rw [j0 100 (by omega)]) j6 q (fun m hm => ?_)
      rw [j0 100 (by omega)] at q
      rw [j0 110 (by omega)]
      rcases ml with h | ⟨-, (⟨h1, h2⟩ | ⟨h1, h2⟩)⟩
      · rw [h] at q
        cases b <;> exact absurd q (by decide)
      · rw [h1] at q
        cases b with
        | false => exact absurd q (by decide)
        | true => exact h2 m hm
      · rw [h1] at q
        cases b with
        | false => exact h2 m hm
        | true => exact absurd q (by decide)
  cases b with
  | false => exact ⟨fun _ => g17, fun q => absurd rfl q⟩
  | true => exact ⟨fun q => absurd q (by decide), fun _ => g17⟩
theorem tX_known (hn1 : 1 ≤ n) (hn : n ≤ 12) (hs : ∀ u w, u < n → w < n → a u w < p ∧ a u w = a w u) (xt : XT n p a hd sd I) (xl : XL n a I) {K : Nat → jM → Prop} (hK : ∀ J : jM, (∀ x, x ≠ 0 → x < 37 ∨ 52 < x → J x = I x) → (∀ k, k ≠ 10 → J 0 k = I 0 k) → XL n a J → (∀ m, m < 2 ^ n → J 37 m = nI (lsB n a m) ∧ J 38 m = nI (lsW n a m)) → K 36 J) : OO_knownMinima 0 I K := by
  unfold OO_knownMinima
  simp only [jrs]
  refine ⟨fun q => ?_, fun _ => t_reckonL hn1 hn hs xt (fun J j1 j2 J3 f3 => ?_)⟩
  · rcases id xl with h | h
    · exact absurd h q
    · exact hK I (fun _ _ _ => rfl) (fun _ _ => rfl) xl h.2.2
  · have e37 : J3 37 = J 37 := by rw [f3, jwr_ne (by omega)]
    have e38 : J3 38 = J 38 := by rw [f3, jwr_ne (by omega)]
    have tb : ∀ m, m < 2 ^ n → J3 37 m = nI (lsB n a m) ∧ J3 38 m = nI (lsW n a m) := fun m hm => by rw [e37, e38]; exact j2 m hm
    exact hK J3 (fun x hx h => by rw [f3, jwr_ne hx]; exact j1 x h) (fun k hk => by rw [f3, jwr_at, if_neg (by omega), j1 0 (by omega)]) (Or.inr ⟨by rw [f3, jwr_at, if_pos ⟨rfl, rfl⟩], hn, tb⟩) tb
end FL2
theorem ML.of {n : Nat} {a : Nat → Nat → Nat} {b : Bool} {J : jM} (hn : n ≤ 12) (h : J 100 13 = (if b then 1 else 0)) (ht : ∀ m, m < 2 ^ n → J 110 m = nI (lsb b n a m)) : ML n a J := by
  cases b with
  | false => exact Or.inr ⟨hn, Or.inr ⟨h, ht⟩⟩
  | true => exact Or.inr ⟨hn, Or.inl ⟨h, ht⟩⟩
/-- the minima alone have changed -/
theorem rr_least {IX IM JX JM : jM} {n p : Nat} {a : Nat → Nat → Nat} {hd : Nat → Bool} {od pl sd : Nat → Nat} {gn : List Nat} {wd : Bool} (hok : OKs n p a od pl sd gn) (xt : XT n p a hd sd IX) (xr : XR n od pl IX) (xf : XF n a od pl IX) (xg : XG n a gn IX) (xw : XW n p a od wd IX) (mt : MT n p a hd sd IM) (mr : MR n od IM) (mg : MG n a gn IM) (mw : MW n p a od wd IM) (hc : ∀ k, 1 ≤ k → k ≤ 6 → IX 99 k = IM 105 k)
    (eX : ∀ x, x ≠ 0 → x < 37 ∨ 52 < x → JX x = IX x) (eX0 : ∀ k, k ≠ 10 → JX 0 k = IX 0 k) (xl : XL n a JX) (eM : ∀ x, x ≠ 100 → x ≠ 106 → x ≠ 110 → JM x = IM x) (eM0 : ∀ k, k ≠ 13 → JM 100 k = IM 100 k) (ml : ML n a JM) : RR JX JM := by
  have hn := hok.2.1
  exact ⟨n, p, a, hd, od, pl, sd, gn, wd, hok, xt.fr (fun c _ _ => eX c (by omega) (by omega)) hn, xr.fr (fun c _ _ => eX c (by omega) (by omega)), xf.fr (eX0 9 (by omega)) (fun c _ _ => eX c (by omega) (by omega)), xl, xg.fr (fun c _ _ => eX c (by omega) (by omega)), xw.fr (fun c _ _ => eX c (by omega) (by omega)) hn, mt.fr (eM0 0 (by omega)) (eM0 1 (by omega)) (eM 101 (by omega) (by omega) (by omega)) (eM 102 (by omega) (by omega) (by omega)) (eM 104 (by omega) (by omega) (by omega)), mr.fr (eM 103 (by omega) (by omega) (by omega)), mg.fr (eM0 15 (by omega)) (eM 111 (by omega) (by omega) (by omega)) (eM 112 (by omega) (by omega) (by omega)) (eM 113 (by omega) (by omega) (by omega)), mw.fr (eM0 18 (by omega)) (eM0 19 (by omega)) (eM 114 (by omega) (by omega) (by omega)) (eM 115 (by omega) (by omega) (by omega)), ml, fun k h1 h6 => by rw [eX 99 (by omega) (by omega), eM 105 (by omega) (by omega) (by omega)]; exact hc k h1 h6⟩
theorem Em0 {n p : Nat} {a : Nat → Nat → Nat} (hn : n ≤ 24) (hs : ∀ u w, u < n → w < n → a u w < p ∧ a u w = a w u) : Em n a 0 = prs n a n / 2 := by
  have e1 : Hm n a 0 = adj n a := by
    have : bitsD n 0 = [] := List.eq_nil_iff_forall_not_mem.mpr (fun z hz => by
      have := (bitsD_mem.mp hz).2
      simp at this)
    unfold Hm
    rw [this]; rfl
  have hz : ∀ d, fb_sm (fun u => ct (adj n a u)) (n + d) = fb_sm (fun u => ct (adj n a u)) n := by
    intro d
    induction d with
    | zero => rfl
    | succ d ih =>
      rw [← Nat.add_assoc, fb_sm_succ, ih]
      have : ct (adj n a (n + d)) = 0 := fb_ct_zero.mpr (fun k _ => by unfold adj; simp; intro h; omega)
      rw [this]; rfl
  unfold Em dg prs
  rw [e1]
  have e := hz (24 - n)
  rw [show n + (24 - n) = 24 by omega] at e
  rw [e]
/-- least(what) -/
theorem law_least {IX IM : jM} (h : RR IX IM) (a1 a2 a3 : Int32) : lawN_14 RR IX IM a1 a2 a3 := by
  obtain ⟨n, p, a, hd, od, pl, sd, gn, wd, hok, xt, xr, xf, xl, xg, xw, mt, mr, mg, mw, ml, hc⟩ := id h
  have hn1 := hok.1
  have hn := hok.2.1
  have hs := hok.2.2.2.2.1
  have hlt := okp hok
  have h2n : 0 < 2 ^ n := Nat.two_pow_pos n
  have big : ∀ (f : Int32), ¬ n ≤ 12 → (a1 = 0 ∨ a1 = 1) → OO_least_16 0 a1 IX (fun rx IX3 => MD_least 100 a1 IM (fun rm IM3 => rx = rm ∧ RR IX3 IM3)) := fun _ hbig ha => by
    unfold OO_least_16
    simp only [jrs]
    rw [xt.1]
    refine ⟨fun q => absurd ((nI_leI (a := n) (b := 12) (by omega) (by omega)).mp q) hbig, fun _ => tX_refuse (k := 6) (by omega) (by omega) m6_eq ?_⟩
    unfold MD_least
    have hin : ¬ a1 < 0 ∧ ¬ 1 < a1 := by rcases ha with rfl | rfl <;> decide
    refine tM_in_yes hin.1 hin.2 ⟨fun _ => ?_, fun q => absurd q (by decide)⟩
    rw [mt.1]
    exact ⟨fun q => absurd ((nI_leI (a := n) (b := 12) (by omega) (by omega)).mp q) hbig, fun _ => tM_refuse (k := 6) (by omega) (by omega) m6_eq ⟨rfl, h.refuse 6 (by omega) (by omega)⟩⟩
  have small : n ≤ 12 → ∀ b : Bool, a1 = (if b then 0 else 1) → OO_least_16 0 a1 IX (fun rx IX3 => MD_least 100 a1 IM (fun rm IM3 => rx = rm ∧ RR IX3 IM3)) := fun h12 b hb => by
    have bd := ls_bounds hn1 h12 hs (m := 0) h2n
    unfold OO_least_16
    simp only [jrs]
    rw [xt.1]
    refine ⟨fun _ => tX_known hn1 h12 hs xt xl (fun JX eX eX0 xl2 tb => ⟨j36.1, j36.2, ?_⟩), fun q => absurd ((nI_leI (a := n) (b := 12) (by omega) (by omega)).mpr h12) q⟩
    have model : MD_least 100 a1 IM (fun rm IM3 => nI (lsb b n a 0) = rm ∧ RR JX IM3) := by
      unfold MD_least
      have hin : ¬ a1 < 0 ∧ ¬ 1 < a1 := by cases b <;> rw [hb] <;> decide
      refine tM_in_yes hin.1 hin.2 ⟨fun _ => ?_, fun q => absurd q (by decide)⟩
      rw [mt.1]
      have m42 : MD_least_42 100 100 (if b then 1 else 0) IM (fun rm IM3 => nI (lsb b n a 0) = rm ∧ RR JX IM3) := by
        unfold MD_least_42
        refine tM_findLeast hn1 h12 hs hlt mt ml (fun JM eM eM0 m6 m13 tbM => ⟨vp_in_nI (n := 0) (N := 4096) (by omega) (by omega), ?_, rr_least hok xt xr xf xg xw mt mr mg mw hc eX eX0 xl2 eM eM0 (ML.of h12 m13 tbM)⟩)
        simp only [jrs]
        exact (tbM 0 h2n).symm
      refine ⟨fun _ => ⟨fun q => ?_, fun q => ?_⟩, fun q => absurd ((nI_leI (a := n) (b := 12) (by omega) (by omega)).mpr h12) q⟩
      · cases b with
        | false => exact m42
        | true => exact absurd hb q
      · cases b with
        | false => rw [hb] at q; exact absurd q (by decide)
        | true => exact m42
    cases b with
    | false =>
      refine ⟨fun _ => ⟨vp_in_nI (n := 0) (N := 4096) (by omega) (by omega), ?_⟩, fun q => ?_⟩
      · have e : JX 38 (0 : Int32).toNatClampNeg = nI (lsb false n a 0) := (tb 0 h2n).2
        simp only [jrs]
        rw [e]; exact model
      · rw [hb] at q; exact absurd q (by decide)
    | true =>
      refine ⟨fun q => absurd hb q, fun _ => ⟨vp_in_nI (n := 0) (N := 4096) (by omega) (by omega), t_pairs hn (xt.fr (fun c _ _ => eX c (by omega) (by omega)) hn) ?_⟩⟩
      have e : JX 37 (0 : Int32).toNatClampNeg = nI (lsB n a 0) := (tb 0 h2n).1
      have e2 := Em0 hn hs
      simp only [jrs]
      rw [e, ← e2, pk_sub (by omega), show lsB n a 0 - Em n a 0 = lsb true n a 0 by show _ = lsL n a 0; omega]
      exact model
  unfold lawN_14 OO_least
  refine ⟨fun q => ?_, fun q => ⟨fun q2 => ?_, fun q2 => tX_refuse (k := 2) (by omega) (by omega) m2_eq ?_⟩⟩
  · by_cases h12 : n ≤ 12
    · exact small h12 true q
    · exact big 0 h12 (Or.inl q)
  · by_cases h12 : n ≤ 12
    · exact small h12 false q2
    · exact big 0 h12 (Or.inr q2)
  · unfold MD_least
    refine tM_in_no ?_ ⟨fun q => absurd rfl q, fun _ => tM_refuse (k := 2) (by omega) (by omega) m2_eq ⟨rfl, h.refuse 2 (by omega) (by omega)⟩⟩
    by_cases hneg : a1 < 0
    · exact Or.inl hneg
    · right
      obtain ⟨j, hj, rfl⟩ := nI_of hneg
      have h1 : j ≠ 0 := fun e => q (by rw [e]; rfl)
      have h3 : j ≠ 1 := fun e => q2 (by rw [e]; rfl)
      exact nI_lt (a := 1) (by omega) hj
