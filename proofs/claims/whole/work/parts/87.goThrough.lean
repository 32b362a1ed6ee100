/-! ===== the FULL NET, the reference's side ===== -/
def MFN (n : Nat) (a : Nat → Nat → Nat) (od : Nat → Nat) (i : Nat) (J : jM) : Prop := J 100 10 = nI (FLP n a od i).length ∧ Held J 108 (FLP n a od i) ∧ (∀ j, j < i → J 107 (od j) = mk (Gi n a od j (od j))) ∧ ∀ j, j < i → J 109 (od j) = nI j
theorem tM_list {I : jM} {n u : Nat} {lv : Nat → Bool} {g G : Gr} (hn : n ≤ 24) (h0 : I 100 0 = nI n) (hr : ∀ w, w < n → I 106 w = mk (g w)) (hu : u < n) (hbh : I 107 u = mk (G u)) (hG : GG n lv G) (hag : ∀ x y, G u x = true → G u y = true → g x y = G x y) {pre : List Nat} (hd : Held I 108 pre) (hl : I 100 10 = nI pre.length) (hb : (pre ++ fl G n u).length ≤ 287) {v1 v2 : Int32} {K : jM → Prop} {X20 : Int32 × Int32 × jM → Prop} (hK : ∀ J : jM, (∀ x, x ≠ 100 → x ≠ 108 → J x = I x) → (∀ k, k ≠ 10 → J 100 k = I 100 k) → Held J 108 (pre ++ fl G n u) → J 100 10 = nI (pre ++ fl G n u).length → MD_joinAll 106 (mk (G u)) J (fun I_2 => X20 (v1, (v2 + 1), I_2))) : MD_goThrough_67 100 v1 v2 (nI u) 0 I K X20 := by
  unfold MD_goThrough_67
  rw [List.length_append] at hb
  refine lp_n2 n (fun k v (J : jM) => v = nI k ∧ (∀ x, x ≠ 100 → x ≠ 108 → J x = I x) ∧ (∀ k, k ≠ 10 → J 100 k = I 100 k) ∧ Held J 108 (pre ++ flP G n u k) ∧ J 100 10 = nI (pre ++ flP G n u k).length) ?_ ?_ (Nat.zero_le _) ⟨rfl, fun _ _ _ => rfl, fun _ _ => rfl, by simpa [flP] using hd, by simpa [flP] using hl⟩
  · rintro k v J X hk ⟨rfl, j1, j2, j3, j4⟩ go
    unfold MD_goThrough_67b
    dsimp only
    rw [j2 0 (by omega), h0]
    refine ⟨fun q => absurd q (ge_no hk (by omega)), fun _ v5 e5 => ?_⟩
    have e5' : v5 = nI (k + 1) := by rw [e5]; exact nI_1 k
    subst e5'
    unfold MD_goThrough_82
    refine lp_n2 n (fun m v (J2 : jM) => v = nI m ∧ (∀ x, x ≠ 100 → x ≠ 108 → J2 x = I x) ∧ (∀ k, k ≠ 10 → J2 100 k = I 100 k) ∧ Held J2 108 (pre ++ flP G n u k ++ flA G u k m) ∧ J2 100 10 = nI (pre ++ flP G n u k ++ flA G u k m).length ∧ k < m) ?_ ?_ (show k + 1 ≤ n by omega) ⟨rfl, j1, j2, ?_⟩
    · rintro m v J2 X2 hm ⟨rfl, m1, m2, m3, m4, m5⟩ go2
      unfold MD_goThrough_82b MD_goThrough_126
      dsimp only
      simp only [jrs]
      rw [m2 0 (by omega), h0, clamp (by omega), m1 107 (by omega) (by omega), hbh, mk_tst1 _ (by omega), mk_tst1 _ (by omega)]
      have hv : vp_in (nI u) 24 := vp_in_nI (by omega) (by omega)
      have skip : flq G u k m = false → X2 (nI m + 1, J2) := fun hq => go2 _ _ ⟨nI_1 m, m1, m2, by rw [flA_succ, hq, if_neg (by decide), List.append_nil]; exact ⟨m3, m4, by omega⟩⟩
      refine ⟨fun q => absurd q (ge_no hm (by omega)), fun _ => ⟨hv, fun q1 => ⟨fun _ => skip ?_, fun q => absurd trivial q⟩, fun q1 => ⟨hv, fun q2 => ⟨fun _ => skip ?_, fun q => absurd trivial q⟩, fun q2 => ⟨fun q => absurd q (by decide), fun _ => ⟨vp_in_nI (by omega) (by omega), ?_⟩⟩⟩⟩⟩
      · unfold flq
        have : G u k = false := by simpa using q1
        rw [this]; simp
      · unfold flq
        have : G u m = false := by simpa using q2
        rw [this]; simp
      · rw [clamp (by omega), m1 106 (by omega) (by omega), hr k hk, mk_tst0 _ (by omega), hag k m q1 q2]
        refine ⟨fun q3 => skip ?_, fun q3 => ?_⟩
        · unfold flq
          have : G k m = true := by simpa using q3
          rw [this]; simp
        · have hlq : flq G u k m = true := by unfold flq; rw [decide_eq_true m5, q1, q2, q3]; rfl
          have hlen : (pre ++ flP G n u k ++ flA G u k m).length + 1 ≤ 287 := by
            have h1 : (flA G u k (m + 1)).length ≤ (flA G u k n).length := flA_len_le (by omega)
            have h2 : (flP G n u (k + 1)).length ≤ (fl G n u).length := flP_len_le (by omega)
            rw [flP_succ, List.length_append] at h2
            rw [flA_succ, hlq, if_pos rfl, List.length_append, List.length_singleton] at h1
            rw [List.length_append, List.length_append]
            omega
          refine ⟨by rw [m4]; exact vp_in_nI (by omega) (by omega), fun J3 f3 J4 f4 => ?_⟩
          rw [m4, clamp (by omega), show (32 : Int32) = nI 32 from rfl, pk_mul, nI_add] at f3
          have e7 : J3 100 10 = nI (pre ++ flP G n u k ++ flA G u k m).length := by rw [f3, jwr_ne (by omega)]; exact m4
          rw [e7, show (1 : Int32) = nI 1 from rfl, nI_add, f3] at f4
          obtain ⟨p1, p2⟩ := held_push (h := 100) (f := 10) (v := 32 * k + m) m3 (by omega)
          refine go2 _ _ ⟨nI_1 m, fun x h1 h2 => ?_, fun f hf => ?_, ?_⟩
          · rw [f4, jwr_ne h1, jwr_ne h2]; exact m1 x h1 h2
          · rw [f4, jwr_at, if_neg (by omega), jwr_ne (by omega)]; exact m2 f hf
          · rw [flA_succ, hlq, if_pos rfl, ← List.append_assoc, f4]
            exact ⟨p1, p2, by omega⟩
    · rintro v J2 X2 ⟨rfl, m1, m2, m3, m4, m5⟩
      unfold MD_goThrough_82b
      dsimp only
      rw [m2 0 (by omega), h0]
      refine ⟨fun _ => go _ _ ⟨nI_1 k, m1, m2, ?_⟩, fun q => absurd (nI_le (Nat.le_refl n) (by omega)) q⟩
      rw [flP_succ, ← List.append_assoc]
      exact ⟨m3, m4⟩
    · rw [flA_nil (k := k + 1) (fun y hy => by unfold flq; rw [decide_eq_false (by omega)]; rfl), List.append_nil]
      exact ⟨j3, j4, by omega⟩
  · rintro v J X ⟨rfl, j1, j2, j3, j4⟩
    unfold MD_goThrough_67b
    dsimp only
    simp only [jrs]
    rw [j2 0 (by omega), h0, clamp (by omega), j1 107 (by omega) (by omega), hbh]
    exact ⟨fun _ => ⟨vp_in_nI (by omega) (by omega), hK J j1 j2 j3 j4⟩, fun q => absurd (nI_le (Nat.le_refl n) (by omega)) q⟩
theorem tM_goThrough {n p : Nat} {a : Nat → Nat → Nat} {hd : Nat → Bool} {od pl sd : Nat → Nat} {I : jM} (hn : n ≤ 24) (hs : ∀ u w, u < n → w < n → a u w < p ∧ a u w = a w u) (hlt : ∀ u w, u < n → w < n → a u w < 2 ^ 31) (ho : Perm n od pl) (mt : MT n p a hd sd I) (mr : MR n od I) {K : jM → Prop} (hK : ∀ J : jM, (∀ x, x ≠ 100 → x < 106 ∨ 109 < x → J x = I x) → (∀ k, k ≠ 10 → J 100 k = I 100 k) → MFN n a od n J → K J) : MD_goThrough 100 I K := by
  unfold MD_goThrough
  refine tM_beginNet hn mt (fun J0 f1 f2 v1 e1 I4 e4 => ?_) hlt
  rw [f1 100 (by omega), mt.1, mk_all n hn] at e1
  unfold MD_goThrough_20
  refine lp_n3 n (fun i v w (J : jM) => v = mk (fun u => decide (u < n) && !decide (u ∈ fo od i)) ∧ w = nI i ∧ (∀ x, x ≠ 100 → x < 106 ∨ 109 < x → J x = I x) ∧ (∀ k, k ≠ 10 → J 100 k = I 100 k) ∧ (∀ w, w < n → J 106 w = mk (Mi n a od i w)) ∧ MFN n a od i J) ?_ ?_ (Nat.zero_le _) ⟨?_, rfl, fun x h1 h2 => ?_, fun k hk => ?_, fun w hw => ?_, ?_, fun k hk => absurd hk (Nat.not_lt_zero k), fun j hj => absurd hj (Nat.not_lt_zero j), fun j hj => absurd hj (Nat.not_lt_zero j)⟩
  · rintro i v w J X hi ⟨rfl, rfl, j1, j2, j3, m1, m2, m3, m4⟩ go
    obtain ⟨o1, o2, o3, o4⟩ := ho i hi
    have hG := Gi_gg (od := od) hs i
    unfold MD_goThrough_20b
    dsimp only
    simp only [jrs]
    rw [j2 0 (by omega), mt.1, clamp (by omega), j1 103 (by omega) (by omega), mr i hi]
    have hv : vp_in (nI (od i)) 24 := vp_in_nI (by omega) (by omega)
    refine ⟨fun q => absurd q (ge_no hi (by omega)), fun _ => ⟨vp_in_nI (by omega) (by omega), fun v3 e3 => ?_⟩⟩
    subst e3
    rw [clamp (by omega), mk_one (by omega), mk_diff]
    refine ⟨hv, fun I2 f2 v1 e1 => ⟨hv, hv, fun I4 f4 => ?_⟩⟩
    subst e1
    have e106 : I2 106 (od i) = mk (Mi n a od i (od i)) := by rw [f2, jwr_ne (by omega)]; exact j3 _ o1
    rw [e106, mk_and] at f4
    have hbe : mk (fun w => Mi n a od i (od i) w && (decide (w < n) && !decide (w ∈ fo od i) && !decide (w = od i))) = mk (Gi n a od i (od i)) := mk_ext (fun w _ => by
      rw [← Mi_near hs ho hi w]
      by_cases hw : w < n
      · rw [decide_eq_true hw]
        cases Mi n a od i (od i) w <;> cases decide (w = od i) <;> simp
      · have hz : Gi n a od i (od i) w = false := by
          cases hh : Gi n a od i (od i) w with
          | true => exact absurd (hG _ _ hh).2.1 hw
          | false => rfl
        rw [Mi_near hs ho hi w, hz]; simp [hw])
    rw [hbe] at f4
    have g1 : ∀ x, x ≠ 107 → x ≠ 109 → I4 x = J x := fun x h1 h2 => by rw [f4, jwr_ne h1, f2, jwr_ne h2]
    have hlen := FLP_le hn hs ho (show i + 1 ≤ n by omega)
    rw [FLP_succ] at hlen
    refine tM_list (g := Mi n a od i) (G := Gi n a od i) hn (by rw [g1 100 (by omega) (by omega), j2 0 (by omega)]; exact mt.1) (fun w hw => by rw [g1 106 (by omega) (by omega)]; exact j3 w hw) o1 (by rw [f4, jwr_at, if_pos ⟨rfl, rfl⟩]) hG (fun x y hx hy => Mi_live hs ho (by omega) (lvL_iff.mp (hG _ _ hx).2.2.2.1) (lvL_iff.mp (hG _ _ hy).2.2.2.1)) (m2.fr (g1 108 (by omega) (by omega))) (by rw [g1 100 (by omega) (by omega)]; exact m1) (by omega) (fun J5 c1 c2 c3 c4 => ?_)
    refine tM_joinAll (n := n) (rw1 := Mi n a od i) (by decide +kernel) (fun w hw => by rw [c1 106 (by omega) (by omega), g1 106 (by omega) (by omega)]; exact j3 w hw) hn (fun w hw => (hG _ _ hw).2.1) (fun J6 d1 d2 => go _ _ _ ⟨?_, nI_1 i, fun x h1 h2 => ?_, fun k hk => ?_, fun w hw => ?_, ?_, ?_, fun j hj => ?_, fun j hj => ?_⟩)
    · apply mk_ext
      intro u _
      rw [fo_succ]
      by_cases h1 : u ∈ fo od i <;> by_cases h2 : u = od i <;> simp [h1, h2]
    · rw [d1 x (by omega), c1 x h1 (by omega), g1 x (by omega) (by omega)]; exact j1 x h1 h2
    · rw [d1 100 (by omega), c2 k hk, g1 100 (by omega) (by omega)]; exact j2 k hk
    · rw [Mi_succ hs ho hi]; exact d2 w hw
    · rw [d1 100 (by omega), FLP_succ]; exact c4
    · rw [FLP_succ]; exact c3.fr (d1 108 (by omega))
    · rw [d1 107 (by omega), c1 107 (by omega) (by omega), f4, jwr_at]
      by_cases e : j = i
      · subst e; rw [if_pos ⟨rfl, rfl⟩]
      · rw [if_neg (fun h => e (ho.inj (by omega) hi h.2)), f2, jwr_ne (by omega)]; exact m3 j (by omega)
    · rw [d1 109 (by omega), c1 109 (by omega) (by omega), f4, jwr_ne (by omega), f2, jwr_at]
      by_cases e : j = i
      · subst e; rw [if_pos ⟨rfl, rfl⟩]
      · rw [if_neg (fun h => e (ho.inj (by omega) hi h.2))]; exact m4 j (by omega)
  · rintro v w J X ⟨rfl, rfl, j1, j2, j3, m⟩
    unfold MD_goThrough_20b
    dsimp only
    rw [j2 0 (by omega), mt.1]
    exact ⟨fun _ => hK J j1 j2 m, fun q => absurd (nI_le (Nat.le_refl n) (by omega)) q⟩
  · rw [e1]; exact mk_ext (fun i _ => by simp [fo])
  · rw [e4, jwr_ne h1]; exact f1 x (by omega)
  · rw [e4, jwr_at, if_neg (by omega)]; rw [f1 100 (by omega)]
  · rw [e4, jwr_ne (by omega)]; exact f2 w hw
  · rw [e4, jwr_at, if_pos ⟨rfl, rfl⟩]; rfl
/-- the FULL NET alone was reckoned, on both sides -/
theorem rr_full {IX IM JX JM : jM} {n p : Nat} {a : Nat → Nat → Nat} {hd : Nat → Bool} {od pl sd : Nat → Nat} {gn : List Nat} {wd : Bool} (hok : OKs n p a od pl sd gn) (xt : XT n p a hd sd IX) (xr : XR n od pl IX) (xl : XL n a IX) (xg : XG n a gn IX) (xw : XW n p a od wd IX) (mt : MT n p a hd sd IM) (mr : MR n od IM) (mg : MG n a gn IM) (mw : MW n p a od wd IM) (ml : ML n a IM) (hc : ∀ k, 1 ≤ k → k ≤ 6 → IX 99 k = IM 105 k)
    (eX : ∀ x, x ≠ 0 → x < 55 ∨ 63 < x → x ≠ 97 → x ≠ 98 → JX x = IX x) (eX0 : JX 0 10 = IX 0 10) (xf : XF n a od pl JX) (eM : ∀ x, x ≠ 100 → x < 106 ∨ 109 < x → x ≠ 117 → x ≠ 116 → JM x = IM x) (eM0 : ∀ k, k ≠ 10 → JM 100 k = IM 100 k) : RR JX JM := by
  have hn := hok.2.1
  refine ⟨n, p, a, hd, od, pl, sd, gn, wd, hok, xt.fr (fun c _ _ => eX c (by omega) (by omega) (by omega) (by omega)) hn, xr.fr (fun c _ _ => eX c (by omega) (by omega) (by omega) (by omega)), xf, xl.fr eX0 (fun c _ _ => eX c (by omega) (by omega) (by omega) (by omega)), xg.fr (fun c _ _ => eX c (by omega) (by omega) (by omega) (by omega)), xw.fr (fun c _ _ => eX c (by omega) (by omega) (by omega) (by omega)) hn, mt.fr (eM0 0 (by omega)) (eM0 1 (by omega)) (eM 101 (by omega) (by omega) (by omega) (by omega)) (eM 102 (by omega) (by omega) (by omega) (by omega)) (eM 104 (by omega) (by omega) (by omega) (by omega)), mr.fr (eM 103 (by omega) (by omega) (by omega) (by omega)), mg.fr (eM0 15 (by omega)) (eM 111 (by omega) (by omega) (by omega) (by omega)) (eM 112 (by omega) (by omega) (by omega) (by omega)) (eM 113 (by omega) (by omega) (by omega) (by omega)), mw.fr (eM0 18 (by omega)) (eM0 19 (by omega)) (eM 114 (by omega) (by omega) (by omega) (by omega)) (eM 115 (by omega) (by omega) (by omega) (by omega)), ml.fr (eM0 13 (by omega)) (eM 110 (by omega) (by omega) (by omega) (by omega)), fun k h1 h6 => by rw [eX 99 (by omega) (by omega) (by omega) (by omega), eM 105 (by omega) (by omega) (by omega) (by omega)]; exact hc k h1 h6⟩
theorem FL_eq (n : Nat) (a : Nat → Nat → Nat) (od : Nat → Nat) : FL n a od = FLP n a od n := rfl
theorem j55 : (55 ∈ jLX) ∧ jk 55 = 0 := by decide +kernel
/-- fills() -/
theorem law_fills {IX IM : jM} (h : RR IX IM) (a1 a2 a3 : Int32) : lawN_7 RR IX IM a1 a2 a3 := by
  obtain ⟨n, p, a, hd, od, pl, sd, gn, wd, hok, xt, xr, xf, xl, xg, xw, mt, mr, mg, mw, ml, hc⟩ := id h
  have hn := hok.2.1
  have hs := hok.2.2.2.2.1
  have ho : Perm n od pl := hok.2.2.2.2.2.1
  unfold lawN_7 OO_fills
  refine t_fullNet hn hs ho xt xr xf (fun JX eX eX0 x9 xf2 => ⟨j55.1, j55.2, ?_⟩)
  unfold MD_fills
  refine tM_goThrough hn hs (okp hok) ho mt mr (fun JM eM eM0 mf => ⟨?_, rr_full hok xt xr xl xg xw mt mr mg mw ml hc (fun x h1 h2 _ _ => eX x h1 h2) (eX0 10 (by omega)) xf2 (fun x h1 h2 _ _ => eM x h1 h2) eM0⟩)
  rcases xf2 with q | q
  · rw [x9] at q; exact absurd q (by decide)
  · rw [q.2.2.1, mf.1, FL_eq]
/-- fill(i) -/
theorem law_fill {IX IM : jM} (h : RR IX IM) (a1 a2 a3 : Int32) : lawN_8 RR IX IM a1 a2 a3 := by
  obtain ⟨n, p, a, hd, od, pl, sd, gn, wd, hok, xt, xr, xf, xl, xg, xw, mt, mr, mg, mw, ml, hc⟩ := id h
  have hn := hok.2.1
  have hs := hok.2.2.2.2.1
  have ho : Perm n od pl := hok.2.2.2.2.2.1
  have hle := FLP_le hn hs ho (Nat.le_refl n)
  unfold lawN_8 OO_fill
  refine t_fullNet hn hs ho xt xr xf (fun JX eX eX0 x9 xf2 => ⟨j55.1, j55.2, ?_⟩)
  obtain ⟨-, q1, q2, -⟩ : JX 0 9 = 1 ∧ Held JX 58 (FL n a od) ∧ JX 55 7 = nI (FL n a od).length ∧ True := by
    rcases xf2 with q | q
    · rw [x9] at q; exact absurd q (by decide)
    · exact ⟨q.1, q.2.1, q.2.2.1, trivial⟩
  rw [FL_eq] at q1 q2
  simp only [jrs]
  rw [q2]
  have hM : ∀ (r : Int32), (∀ k, k < (FLP n a od n).length → a1 = nI k → r = nI ((FLP n a od n).getD k 0)) → (a1 < 0 ∨ ¬ a1 < nI (FLP n a od n).length → r = -9) → MD_fill 100 a1 IM (fun rm IM3 => r = rm ∧ RR JX IM3) := by
    intro r r1 r2
    unfold MD_fill
    refine tM_goThrough hn hs (okp hok) ho mt mr (fun JM eM eM0 mf => ?_)
    have fin : RR JX JM := rr_full hok xt xr xl xg xw mt mr mg mw ml hc (fun x h1 h2 _ _ => eX x h1 h2) (eX0 10 (by omega)) xf2 (fun x h1 h2 _ _ => eM x h1 h2) eM0
    rw [mf.1]
    by_cases hin : ¬ a1 < 0 ∧ a1 < nI (FLP n a od n).length
    · obtain ⟨k, hk, rfl⟩ := (nI_lt_iff (by omega)).mp hin
      refine tM_in_yes (nI_pos (by omega)) ?_ ⟨fun q => absurd q (by decide), fun _ => ⟨vp_in_nI (by omega) (by omega), ?_, fin⟩⟩
      · rw [show (FLP n a od n).length = ((FLP n a od n).length - 1) + 1 by omega, nI_pred]
        exact nI_nlt (by omega) (by omega)
      · simp only [jrs]
        rw [clamp (by omega), mf.2.1 k hk]
        exact r1 k hk rfl
    · have hx : a1 < 0 ∨ ¬ a1 < nI (FLP n a od n).length := by
        by_cases h0 : a1 < 0
        · exact Or.inl h0
        · exact Or.inr (fun h1 => hin ⟨h0, h1⟩)
      refine tM_in_no ?_ ⟨fun _ => ⟨r2 hx, fin⟩, fun q => absurd rfl q⟩
      rcases hx with hx | hx
      · exact Or.inl hx
      · by_cases h0 : a1 < 0
        · exact Or.inl h0
        · obtain ⟨j, hj, rfl⟩ := nI_of h0
          refine Or.inr ?_
          have : ¬ j < (FLP n a od n).length := fun e => hx (nI_lt e (by omega))
          rcases Nat.eq_zero_or_pos (FLP n a od n).length with h5 | h5
          · rw [h5, Int32.lt_iff_toInt_lt, nI_toInt hj]
            have : (nI 0 - 1).toInt = -1 := by decide
            omega
          · rw [show (FLP n a od n).length = ((FLP n a od n).length - 1) + 1 by omega, nI_pred]
            exact nI_lt (by omega) (by omega)
  refine ⟨fun q => hM _ (fun k hk e => ?_) (fun _ => rfl), fun q => ⟨fun q3 => ?_, fun q3 => hM _ (fun k hk e => ?_) (fun _ => rfl)⟩⟩
  · rw [e] at q; exact absurd q (nI_pos (by omega))
  · obtain ⟨k, hk, rfl⟩ := (nI_lt_iff (by omega)).mp ⟨q, q3⟩
    refine ⟨vp_in_nI (by omega) (by omega), hM _ (fun j hj e => ?_) (fun hx => ?_)⟩
    · have : k = j := (nI_eq (by omega) (by omega)).mp e
      subst this
      rw [clamp (by omega), q1 k hk]
    · rcases hx with hx | hx
      · exact absurd hx q
      · exact absurd q3 hx
  · rw [e] at q3; exact absurd (nI_lt hk (by omega)) q3
