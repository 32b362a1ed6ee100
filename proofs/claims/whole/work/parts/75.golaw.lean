/-- GOING alone has changed -/
theorem rr_go {IX IM JX JM : jM} {n p : Nat} {a : Nat → Nat → Nat} {hd : Nat → Bool} {od pl sd : Nat → Nat} {gn gn2 : List Nat} {wd : Bool} (hok : OKs n p a od pl sd gn) (xt : XT n p a hd sd IX) (xr : XR n od pl IX) (xf : XF n a od pl IX) (xl : XL n a IX) (xw : XW n p a od wd IX) (mt : MT n p a hd sd IM) (mr : MR n od IM) (mw : MW n p a od wd IM) (ml : ML n a IM) (hc : ∀ k, 1 ≤ k → k ≤ 6 → IX 99 k = IM 105 k)
    (eX : ∀ x, x < 64 ∨ 67 < x → JX x = IX x) (eM : ∀ x, x ≠ 100 → x ≠ 106 → x ≠ 111 → x ≠ 112 → x ≠ 113 → JM x = IM x) (eM0 : ∀ k, k ≠ 15 → JM 100 k = IM 100 k) (xg : XG n a gn2 JX) (mg : MG n a gn2 JM) (hnd : gn2.Nodup) (hb : ∀ u ∈ gn2, u < n) : RR JX JM := by
  have hn := hok.2.1
  refine ⟨n, p, a, hd, od, pl, sd, gn2, wd, ⟨hok.1, hok.2.1, hok.2.2.1, hok.2.2.2.1, hok.2.2.2.2.1, hok.2.2.2.2.2.1, hok.2.2.2.2.2.2.1, hnd, hb⟩, xt.fr (fun c _ _ => eX c (by omega)) hn, xr.fr (fun c _ _ => eX c (by omega)), xf.fr (by rw [eX 0 (by omega)]) (fun c _ _ => eX c (by omega)), xl.fr (by rw [eX 0 (by omega)]) (fun c _ _ => eX c (by omega)), xg, xw.fr (fun c _ _ => eX c (by omega)) hn, mt.fr (eM0 0 (by omega)) (eM0 1 (by omega)) (eM 101 (by omega) (by omega) (by omega) (by omega) (by omega)) (eM 102 (by omega) (by omega) (by omega) (by omega) (by omega)) (eM 104 (by omega) (by omega) (by omega) (by omega) (by omega)), mr.fr (eM 103 (by omega) (by omega) (by omega) (by omega) (by omega)), mg, mw.fr (eM0 18 (by omega)) (eM0 19 (by omega)) (eM 114 (by omega) (by omega) (by omega) (by omega) (by omega)) (eM 115 (by omega) (by omega) (by omega) (by omega) (by omega)), ml.fr (eM0 13 (by omega)) (eM 110 (by omega) (by omega) (by omega) (by omega) (by omega)), fun k h1 h6 => by rw [eX 99 (by omega), eM 105 (by omega) (by omega) (by omega) (by omega) (by omega)]; exact hc k h1 h6⟩
theorem okp {n p : Nat} {a : Nat → Nat → Nat} {od pl sd : Nat → Nat} {gn : List Nat} (hok : OKs n p a od pl sd gn) : ∀ u w, u < n → w < n → a u w < 2 ^ 31 := fun u w hu hw => by
  have := (hok.2.2.2.2.1 u w hu hw).1
  have := hok.2.2.1
  omega
/-- begin() -/
theorem law_begin {IX IM : jM} (h : RR IX IM) (a1 a2 a3 : Int32) : lawN_15 RR IX IM a1 a2 a3 := by
  obtain ⟨n, p, a, hd, od, pl, sd, gn, wd, hok, xt, xr, xf, xl, xg, xw, mt, mr, mg, mw, ml, hc⟩ := id h
  have hn := hok.2.1
  unfold lawN_15 OO_begin
  simp only [jrs]
  refine t_restart hn xt (fun JX eX xg2 => ?_)
  rw [eX 1 (by omega), xt.1]
  refine tM_begin hn mt (okp hok) (fun JM eM eM0 mg2 => ⟨rfl, ?_⟩)
  exact rr_go hok xt xr xf xl xw mt mr mw ml hc eX (fun x h1 h2 _ _ h5 => eM x h1 h2 h5) eM0 xg2 mg2 List.nodup_nil (fun u hu => by cases hu)
/-- out(u) -/
theorem law_out {IX IM : jM} (h : RR IX IM) (a1 a2 a3 : Int32) : lawN_16 RR IX IM a1 a2 a3 := by
  obtain ⟨n, p, a, hd, od, pl, sd, gn, wd, hok, xt, xr, xf, xl, xg, xw, mt, mr, mg, mw, ml, hc⟩ := id h
  have hn := hok.2.1
  have hn1 := hok.1
  have hs := hok.2.2.2.2.1
  have hg := hok.2.2.2.2.2.2.2.1
  have hb := hok.2.2.2.2.2.2.2.2
  unfold lawN_16 OO_out
  simp only [jrs]
  rcases who a1 hn with ⟨u, hu, rfl⟩ | ⟨-, hx⟩
  · refine tX_isNobody_no hn xt.1 hu ⟨fun _ => t_has xg.nk hu hn ?_, fun q => absurd rfl q⟩
    by_cases hun : u ∈ gn
    · have hl : lvL gn u = false := by unfold lvL; simp [hun]
      rw [hl]
      refine ⟨fun q => absurd rfl q, fun _ => tX_refuse (k := 3) (by omega) (by omega) m3_eq ?_⟩
      unfold MD_out
      refine tM_lacks hn1 hn hg hb mt.1 mg hu ?_
      rw [if_pos hun]
      exact ⟨fun q => absurd q (by decide), fun _ => tM_refuse (k := 3) (by omega) (by omega) m3_eq ⟨rfl, h.refuse 3 (by omega) (by omega)⟩⟩
    · have hl : lvL gn u = true := by unfold lvL; simp [hun]
      rw [hl]
      refine ⟨fun _ => t_missing okh65 xg.nk (gg_elL hs gn) hu hl hn (t_sendOut hn hs hg hb xg hu hun (fun JX eX xg2 => ?_)), fun q => absurd q (by decide)⟩
      refine tM_out hn1 hn hs hg hb mt mg hu hun (fun JM eM eM0 mg2 => ⟨rfl, ?_⟩)
      refine rr_go hok xt xr xf xl xw mt mr mw ml hc eX (fun x h1 _ h3 h4 h5 => eM x h1 h3 h4 h5) eM0 xg2 mg2 ?_ (fun x hx => ?_)
      · rw [List.nodup_append]
        refine ⟨hg, by simp, fun x hx y hy e => ?_⟩
        rw [List.mem_singleton.mp hy] at e
        exact hun (e ▸ hx)
      · rcases List.mem_append.mp hx with h1 | h1
        · exact hb x h1
        · rw [List.mem_singleton.mp h1]; exact hu
  · refine tX_isNobody_yes xt.1 hx ⟨fun q => absurd q (by decide), fun _ => tX_refuse (k := 1) (by omega) (by omega) m1_eq ?_⟩
    unfold MD_out
    exact tM_lacks_no hn1 hn mt.1 hx ⟨fun q => absurd q (by decide), fun _ => tM_refuse (k := 1) (by omega) (by omega) m1_eq ⟨rfl, h.refuse 1 (by omega) (by omega)⟩⟩
/-- back() -/
theorem law_back {IX IM : jM} (h : RR IX IM) (a1 a2 a3 : Int32) : lawN_18 RR IX IM a1 a2 a3 := by
  obtain ⟨n, p, a, hd, od, pl, sd, gn, wd, hok, xt, xr, xf, xl, xg, xw, mt, mr, mg, mw, ml, hc⟩ := id h
  have hn := hok.2.1
  have hs := hok.2.2.2.2.1
  have hg := hok.2.2.2.2.2.2.2.1
  have hb := hok.2.2.2.2.2.2.2.2
  unfold lawN_18 OO_back
  simp only [jrs]
  rcases List.eq_nil_or_concat gn with hnil | ⟨l, u, hcat⟩
  · subst hnil
    unfold GO_undo
    rw [xg.1]
    refine ⟨fun q => absurd q (by decide), fun _ => ?_⟩
    unfold MD_back
    rw [mg.1]
    exact ⟨fun q => absurd rfl q, fun _ => ⟨rfl, h⟩⟩
  · have hcat : gn = l ++ [u] := by rw [hcat]; simp
    subst hcat
    refine t_undo hn hs hg hb xt xg (fun JX eX xg2 => tM_back hn hg hb mt mg (fun JM eM eM0 mg2 => ⟨rfl, ?_⟩))
    exact rr_go hok xt xr xf xl xw mt mr mw ml hc eX (fun x h1 _ _ _ h5 => eM x h1 h5) eM0 xg2 mg2 (List.nodup_append.mp hg).1 (fun x hx => hb x (List.mem_append_left _ hx))
/-! going(u, what) -/
theorem t_kindX {n p : Nat} {a : Nat → Nat → Nat} {hd : Nat → Bool} {gn : List Nat} {I : jM} {u : Nat} (hn : n ≤ 24) (hs : ∀ u w, u < n → w < n → a u w < p ∧ a u w = a w u) (xg : XG n a gn I) (hu : u < n) (hun : u ∉ gn) {K : Int32 → Prop}
    (k4 : hd u = true → (∃ w, w < n ∧ w ∉ gn ∧ hd w = false) → K 4) (k3 : ¬ (hd u = true ∧ ∃ w, w < n ∧ w ∉ gn ∧ hd w = false) → (∀ w, w < 24 → elL (adj n a) gn u w = false) → K 3) (k2 : ¬ (hd u = true ∧ ∃ w, w < n ∧ w ∉ gn ∧ hd w = false) → ¬ (∀ w, w < 24 → elL (adj n a) gn u w = false) → (∃ w, w < u ∧ elL (adj n a) gn u w = true ∧ ∀ i, i < 24 → (elL (adj n a) gn w i || decide (i = w)) = (elL (adj n a) gn u i || decide (i = u))) → K 2)
    (k1 : ¬ (hd u = true ∧ ∃ w, w < n ∧ w ∉ gn ∧ hd w = false) → ¬ (∀ w, w < 24 → elL (adj n a) gn u w = false) → ¬ (∃ w, w < u ∧ elL (adj n a) gn u w = true ∧ ∀ i, i < 24 → (elL (adj n a) gn w i || decide (i = w)) = (elL (adj n a) gn u i || decide (i = u))) → K (if ms (elL (adj n a) gn) u = 0 then 1 else 0)) : GO_kind 64 (nI u) (mk (fun u => decide (u < n) && hd u)) I K := by
  have hG := gg_elL hs gn
  have hlu : lvL gn u = true := by unfold lvL; simpa using hun
  have hnk := xg.nk
  have rest : ¬ (hd u = true ∧ ∃ w, w < n ∧ w ∉ gn ∧ hd w = false) → GO_kind_25 64 (nI u) I K := by
    intro hno
    unfold GO_kind_25
    simp only [jrs]
    rw [clamp (by omega), hnk.2.2 u hu hlu]
    refine ⟨vp_in_nI (by omega) (by omega), fun q => ?_, fun q => k3 hno (mk_zero.mp q)⟩
    have hq : ¬ (∀ w, w < 24 → elL (adj n a) gn u w = false) := fun hh => q (mk_zero.mpr hh)
    unfold GO_isTwin GO_isTwin_16
    simp only [jrs]
    refine ⟨vp_in_nI (by omega) (by omega), fun v ev => ?_⟩
    rw [clamp (by omega), hnk.2.2 u hu hlu, mk_one (by omega), mk_or] at ev
    subst ev
    refine lp_n u (fun k (s : Int32) => s = nI k ∧ ∀ w, w < k → ¬ (elL (adj n a) gn u w = true ∧ ∀ i, i < 24 → (elL (adj n a) gn w i || decide (i = w)) = (elL (adj n a) gn u i || decide (i = u)))) ?_ ?_ (Nat.zero_le _) ⟨rfl, fun w h => absurd h (Nat.not_lt_zero w)⟩
    · rintro k s X hk ⟨rfl, hprev⟩ go
      unfold GO_isTwin_16b GO_isTwin_43
      simp only [jrs]
      rw [clamp (by omega), hnk.2.2 u hu hlu, mk_tst1 _ (by omega)]
      refine ⟨fun q => absurd q (ge_no hk (by omega)), fun _ => ⟨vp_in_nI (by omega) (by omega), fun q2 => ⟨fun _ => go _ ⟨nI_1 k, fun w hw => ?_⟩, fun q3 => absurd trivial q3⟩, fun q2 => ⟨fun q3 => absurd q3 (by decide), fun _ => ⟨vp_in_nI (by omega) (by omega), ?_⟩⟩⟩⟩
      · by_cases e : w = k
        · subst e; exact fun hh => q2 hh.1
        · exact hprev w (by omega)
      · have hk2 := hG u k q2
        rw [clamp (by omega), hnk.2.2 k (by omega) hk2.2.2.2.1, mk_one (by omega), mk_or]
        refine ⟨fun q3 => go _ ⟨nI_1 k, fun w hw => ?_⟩, fun q3 => ⟨fun q4 => absurd q4 (by decide), fun _ => k2 hno hq ⟨k, hk, q2, mk_inj q3⟩⟩⟩
        by_cases e : w = k
        · subst e; exact fun hh => q3 (mk_ext hh.2)
        · exact hprev w (by omega)
    · rintro s X ⟨rfl, hprev⟩
      unfold GO_isTwin_16b
      simp only [jrs]
      refine ⟨fun _ => ⟨fun _ => t_missing okh65 hnk hG hu hlu hn ?_, fun q4 => absurd trivial q4⟩, fun q4 => absurd (nI_le (Nat.le_refl _) (by omega)) q4⟩
      have hkk := k1 hno hq (fun ⟨w, hw, hh⟩ => hprev w hw hh)
      have hms : ms (elL (adj n a) gn) u ≤ 288 := by
        unfold ms
        have : fb_sm (fun w => if elL (adj n a) gn u w then ct (fun y => elL (adj n a) gn u y && !elL (adj n a) gn w y && !decide (y = w)) else 0) 24 ≤ 24 * 24 := fb_sm_bound (fun w _ => by
          split
          · exact ct_le _
          · exact Nat.zero_le _)
        omega
      by_cases e : ms (elL (adj n a) gn) u = 0
      · rw [if_pos e] at hkk
        exact ⟨fun q4 => absurd (by rw [e]; rfl) q4, fun _ => hkk⟩
      · rw [if_neg e] at hkk
        exact ⟨fun _ => hkk, fun q4 => absurd q4 (nI_ne0 (by omega) (by omega))⟩
  have hz : (I 65 1 &&& (mk (fun u => decide (u < n) && hd u) ^^^ (-1)) = 0) ↔ ¬ ∃ w, w < n ∧ w ∉ gn ∧ hd w = false := by
    rw [xg.2.2.2.1, mk_diff, mk_zero]
    constructor
    · rintro hh ⟨w, h1, h2, h3⟩
      have := hh w (by omega)
      simp [h1, h2, h3] at this
    · intro hh i hi
      by_cases h1 : i < n
      · by_cases h2 : i ∈ gn
        · simp [h2]
        · cases h3 : hd i with
          | true => simp [h1]
          | false => exact absurd ⟨i, h1, h2, h3⟩ hh
      · simp [h1]
  unfold GO_kind
  simp only [jrs]
  rw [mk_tst1 _ (by omega), hz]
  refine ⟨fun q => rest (fun hh => q (by simp [hu, hh.1])), fun q => ⟨fun q2 => rest (fun hh => q2 hh.2), fun q2 => k4 (by simpa [hu] using q) (Classical.not_not.mp q2)⟩⟩
