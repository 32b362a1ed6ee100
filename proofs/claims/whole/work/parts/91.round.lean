/-! plan, round: the reference -/
theorem MFN.fr {n : Nat} {a : Nat → Nat → Nat} {od : Nat → Nat} {i : Nat} {I J : jM} (m : MFN n a od i I) (e0 : J 100 = I 100) (e7 : J 107 = I 107) (e8 : J 108 = I 108) (e9 : J 109 = I 109) : MFN n a od i J := by
  unfold MFN Held at *
  rw [e0, e7, e8, e9]; exact m
def mbd (n : Nat) (a : Nat → Nat → Nat) (od pl : Nat → Nat) (D : Nat → Bool) (R : Nat → Nat) (r : Nat) (u : Nat) : Bool := !D u && (List.range n).all (fun w => !decide (par n a od (pl w) = pl u) || (D w && decide (R w < r)))
section PLM
variable {n p : Nat} {a : Nat → Nat → Nat} {od pl : Nat → Nat} {I : jM}
theorem tM_mayBe (hn : n ≤ 24) (hs : ∀ u w, u < n → w < n → a u w < p ∧ a u w = a w u) (ho : Perm n od pl) (h0 : I 100 0 = nI n) (m : MFN n a od n I) {D : Nat → Bool} {R : Nat → Nat} {r : Nat} (hr : r < 2 ^ 31) (hrd : ∀ u, u < n → I 117 u = if D u then nI (R u) else -9) (hR : ∀ u, D u = true → R u ≤ r) {u : Nat} (hu : u < n) {K : Int32 → Prop} (hK : K (if mbd n a od pl D R r u then 1 else 0)) : MD_mayBeDone 100 (nI u) (nI r) I K := by
  obtain ⟨u1, u2, u3, u4⟩ := ho u hu
  have loop : ∀ v, ((v = 1 ∧ D u = false) ∨ (v = 0 ∧ D u = true)) → MD_mayBeDone_20 100 (nI u) (nI r) v 0 I K := by
    intro v hv
    unfold MD_mayBeDone_20
    refine lp_n2 n (fun k x y => y = nI k ∧ ((x = 1 ∧ D u = false ∧ ∀ w, w < k → par n a od (pl w) = pl u → D w = true ∧ R w < r) ∨ (x = 0 ∧ mbd n a od pl D R r u = false))) ?_ ?_ (Nat.zero_le _) ⟨rfl, ?_⟩
    · rintro k x y X hk ⟨rfl, hx⟩ go
      unfold MD_mayBeDone_20b
      dsimp only
      simp only [jrs]
      rw [h0]
      refine ⟨fun q => absurd q (ge_no hk (by omega)), fun _ => ?_⟩
      rcases hx with ⟨rfl, hD, hw⟩ | ⟨rfl, hm⟩
      · refine ⟨fun q => absurd q (by decide), fun _ => ?_⟩
        have bad : par n a od (pl k) = pl u → ¬ (D k = true ∧ R k < r) → mbd n a od pl D R r u = false := fun e1 e2 => by
          cases hm : mbd n a od pl D R r u with
          | false => rfl
          | true =>
            unfold mbd at hm
            simp only [Bool.and_eq_true, List.all_eq_true, List.mem_range, Bool.or_eq_true, Bool.not_eq_true', decide_eq_false_iff_not, decide_eq_true_eq] at hm
            rcases hm.2 k hk with h | h
            · exact absurd e1 h
            · exact absurd h e2
        have good : (par n a od (pl k) = pl u → D k = true ∧ R k < r) → X (1, nI k + 1) := fun hg => go _ _ ⟨nI_1 k, Or.inl ⟨rfl, hD, fun w hwk e => by
          by_cases ek : w = k
          · subst ek; exact hg e
          · exact hw w (by omega) e⟩⟩
        refine tM_parent hn hs ho h0 m hk (fun j hj e => ?_) (fun e => ?_)
        · have hj1 := (ho j hj).1
          rw [nI_eq (by omega) (by omega), clamp (by omega), hrd k hk]
          refine ⟨fun q => good (fun e2 => absurd (by rw [← e, e2]; exact u4) q), fun q => ⟨vp_in_nI (by omega) (by omega), ?_⟩⟩
          have ej : par n a od (pl k) = pl u := by rw [e, ← q]; exact (ho j hj).2.1.symm
          cases hDk : D k with
          | false =>
            rw [if_neg (by decide)]
            exact ⟨fun _ => go _ _ ⟨nI_1 k, Or.inr ⟨rfl, bad ej (fun hh => by rw [hDk] at hh; cases hh.1)⟩⟩, fun q2 => absurd rfl q2⟩
          | true =>
            have hRk := hR k hDk
            rw [if_pos rfl, nI_leI hr (by omega)]
            exact ⟨fun q2 => absurd q2 (nI_ne9 (by omega)), fun _ => ⟨vp_in_nI (by omega) (by omega), fun q3 => go _ _ ⟨nI_1 k, Or.inr ⟨rfl, bad ej (fun hh => by omega)⟩⟩, fun q3 => good (fun _ => ⟨hDk, by omega⟩)⟩⟩
        · exact ⟨fun _ => good (fun e2 => absurd (by omega) e), fun q => absurd q.symm (nI_ne9 (by omega))⟩
      · rw [hm] at hK
        exact ⟨fun _ => ⟨rfl, hK⟩, fun q => absurd rfl q⟩
    · rintro x y X ⟨rfl, hx⟩
      unfold MD_mayBeDone_20b
      dsimp only
      rw [h0]
      refine ⟨fun _ => ?_, fun q => absurd (nI_le (Nat.le_refl n) (by omega)) q⟩
      rcases hx with ⟨rfl, hD, hw⟩ | ⟨rfl, hm⟩
      · have hm : mbd n a od pl D R r u = true := by
          unfold mbd
          simp only [Bool.and_eq_true, List.all_eq_true, List.mem_range, Bool.or_eq_true, Bool.not_eq_true', decide_eq_false_iff_not, decide_eq_true_eq]
          refine ⟨hD, fun w hwn => ?_⟩
          by_cases e : par n a od (pl w) = pl u
          · exact Or.inr (hw w hwn e)
          · exact Or.inl e
        rw [hm] at hK
        exact ⟨rfl, hK⟩
      · rw [hm] at hK
        exact ⟨rfl, hK⟩
    · rcases hv with ⟨e, hD⟩ | ⟨e, hD⟩
      · exact Or.inl ⟨e, hD, fun w hw => absurd hw (Nat.not_lt_zero w)⟩
      · exact Or.inr ⟨e, by unfold mbd; rw [hD]; rfl⟩
  unfold MD_mayBeDone
  simp only [jrs]
  rw [clamp (by omega), hrd u hu]
  cases hDu : D u with
  | false => exact ⟨vp_in_nI (by omega) (by omega), fun q => absurd (by simp) q, fun _ => loop 1 (Or.inl ⟨rfl, hDu⟩)⟩
  | true => exact ⟨vp_in_nI (by omega) (by omega), fun _ => loop 0 (Or.inr ⟨rfl, hDu⟩), fun q => absurd (by simpa using q) (nI_ne9 (by have := hR u hDu; omega))⟩
theorem mbd_eq {A0 D0 : Nat → Bool} {r : Nat} {s : PS} (hp : Pok n A0 D0 r s) (hA0 : A0 = rdy n a od pl D0) {u : Nat} (hu : u < n) : mbd n a od pl s.2.1 s.2.2 r u = s.1 u := by
  obtain ⟨h1, h2, h3, h4, h5⟩ := hp
  rw [h1 u, hA0]
  have hex : ((List.range n).all (fun w => !decide (par n a od (pl w) = pl u) || (s.2.1 w && decide (s.2.2 w < r)))) = (List.range n).all (fun w => !decide (par n a od (pl w) = pl u) || D0 w) := by
    congr 1
    funext w
    congr 1
    cases hD : s.2.1 w with
    | true =>
      cases hD0 : D0 w with
      | true => rw [decide_eq_true ((h5 w hD).mpr hD0)]; rfl
      | false => rw [decide_eq_false (fun q => by rw [(h5 w hD).mp q] at hD0; cases hD0)]; rfl
    | false =>
      cases hD0 : D0 w with
      | true => rw [h3 w hD0] at hD; cases hD
      | false => rfl
  unfold mbd rdy
  rw [hex, decide_eq_true hu]
  cases hD : s.2.1 u with
  | true => simp
  | false =>
    cases hD0 : D0 u with
    | true => rw [h3 u hD0] at hD; cases hD
    | false => simp
theorem tM_plan (hn : n ≤ 24) (hs : ∀ u w, u < n → w < n → a u w < p ∧ a u w = a w u) (ho : Perm n od pl) (h0 : I 100 0 = nI n) (mr : MR n od I) (mf : MFN n a od n I) {h : Nat} (h1 : 1 ≤ h) (h24 : h ≤ 24) {K : Int32 → jM → Prop} (hK : ∀ J : jM, (∀ x, x ≠ 117 → J x = I x) → (∀ u, u < n → J 117 u = nI ((PD n a od pl h (Tend n a od pl h)).2 u)) → K (nI (Tend n a od pl h)) J) : MD_planFor_6 100 (nI h) 0 I K := by
  have hT := Tend_le n a od pl h
  have mfJ : ∀ J : jM, (∀ x, x ≠ 117 → J x = I x) → MFN n a od n J := fun J hJ => mf.fr (hJ 100 (by omega)) (hJ 107 (by omega)) (hJ 108 (by omega)) (hJ 109 (by omega))
  unfold MD_planFor_6
  refine lp_n2 n (fun k v (J : jM) => v = nI k ∧ (∀ x, x ≠ 117 → J x = I x) ∧ ∀ u, u < k → J 117 u = -9) ?_ ?_ (Nat.zero_le _) ⟨rfl, fun _ _ => rfl, fun u hu => absurd hu (Nat.not_lt_zero u)⟩
  · rintro k v J X hk ⟨rfl, j1, j2⟩ go
    unfold MD_planFor_6b
    dsimp only
    simp only [jrs]
    rw [j1 100 (by omega), h0]
    refine ⟨fun q => absurd q (ge_no hk (by omega)), fun _ => ⟨vp_in_nI (by omega) (by omega), fun J2 f2 => go _ _ ⟨nI_1 k, fun x hx => by rw [f2, jwr_ne hx]; exact j1 x hx, fun u hu => ?_⟩⟩⟩
    rw [f2, clamp (by omega), jwr_at]
    by_cases e : u = k
    · rw [if_pos ⟨rfl, e⟩]
    · rw [if_neg (by omega)]; exact j2 u (by omega)
  · rintro v J X ⟨rfl, j1, j2⟩
    unfold MD_planFor_6b
    dsimp only
    rw [j1 100 (by omega), h0]
    refine ⟨fun _ v2 e2 => ?_, fun q => absurd (nI_le (Nat.le_refl n) (by omega)) q⟩
    unfold MD_planFor_35
    refine lp_n3 (Tend n a od pl h) (fun t x y (J : jM) => x = nI (n - fb_ct (PD n a od pl h t).1 n) ∧ y = nI t ∧ (∀ x, x ≠ 117 → J x = I x) ∧ ∀ u, u < n → J 117 u = if (PD n a od pl h t).1 u then nI ((PD n a od pl h t).2 u) else -9) ?_ ?_ (Nat.zero_le _) ⟨?_, rfl, j1, fun u hu => by rw [j2 u hu]; rfl⟩
    · rintro t x y J X ht ⟨rfl, rfl, j1, j2⟩ go
      have hno := Tend_no ho ht
      have hPD := PD_ok (n := n) (a := a) ho h t
      unfold MD_planFor_35b
      dsimp only
      refine ⟨fun q => absurd q (nI_nle (by omega) (by omega)), fun _ => ?_⟩
      obtain ⟨s0, hs0⟩ : ∃ s0, s0 = (rdy n a od pl (PD n a od pl h t).1, (PD n a od pl h t).1, (PD n a od pl h t).2) := ⟨_, rfl⟩
      have hfin : (PD n a od pl h (t + 1)) = (pIt n a od t h s0).2 := by rw [hs0]; rfl
      have hpok : ∀ k, Pok n (rdy n a od pl (PD n a od pl h t).1) (PD n a od pl h t).1 t (pIt n a od t k s0) := fun k => by rw [hs0]; exact pIt_ok ho hPD (fun u hu => rdy_no hu) k
      unfold MD_planFor_42
      refine lp_n3 h (fun k x y (J : jM) => x = nI (n - fb_ct (pIt n a od t k s0).2.1 n) ∧ y = nI k ∧ (∀ x, x ≠ 117 → J x = I x) ∧ ∀ u, u < n → J 117 u = if (pIt n a od t k s0).2.1 u then nI ((pIt n a od t k s0).2.2 u) else -9) ?_ ?_ (Nat.zero_le _) ⟨by rw [hs0]; rfl, rfl, j1, by rw [hs0]; exact j2⟩
      · rintro k x y J2 X2 hk ⟨rfl, rfl, m1, m2⟩ go2
        obtain ⟨s, hs'⟩ : ∃ s, s = pIt n a od t k s0 := ⟨_, rfl⟩
        rw [← hs'] at m2 ⊢
        have hp : Pok n (rdy n a od pl (PD n a od pl h t).1) (PD n a od pl h t).1 t s := by rw [hs']; exact hpok k
        have hst : pIt n a od t (k + 1) s0 = pst n a od t s := by rw [hs']; rfl
        rw [hst] at go2
        unfold MD_planFor_42b
        dsimp only
        refine ⟨fun q => absurd q (ge_no hk (by omega)), fun _ => ?_⟩
        unfold MD_planFor_55
        refine lp_n2 n (fun i x y => y = nI i ∧ x = if bst n a od s.1 i = n then -9 else nI (od (bst n a od s.1 i))) ?_ ?_ (Nat.zero_le _) ⟨rfl, by simp [bst]⟩
        · rintro i x y X3 hi ⟨rfl, rfl⟩ go3
          obtain ⟨o1, o2, o3, o4⟩ := ho i hi
          have mrJ : J2 103 i = nI (od i) := by rw [m1 103 (by omega)]; exact mr i hi
          unfold MD_planFor_55b
          dsimp only
          simp only [jrs]
          rw [m1 100 (by omega), h0, clamp (by omega), mrJ]
          refine ⟨fun q => absurd q (ge_no hi (by omega)), fun _ => ⟨vp_in_nI (by omega) (by omega), fun v7 e7 => ?_⟩⟩
          subst e7
          refine tM_mayBe hn hs ho (by rw [m1 100 (by omega)]; exact h0) (mfJ J2 m1) (by omega) m2 hp.2.2.2.1 o1 ?_
          rw [mbd_eq hp rfl o1]
          have hbs := bst_spec (n := n) (a := a) (od := od) s.1 i (by omega)
          have keep : bst n a od s.1 (i + 1) = bst n a od s.1 i → X3 ((if bst n a od s.1 i = n then -9 else nI (od (bst n a od s.1 i))), nI i + 1) := fun e => go3 _ _ ⟨nI_1 i, by rw [e]⟩
          have new : bst n a od s.1 (i + 1) = i → X3 (nI (od i), nI i + 1) := fun e => go3 _ _ ⟨nI_1 i, by rw [e, if_neg (by omega)]⟩
          cases hA : s.1 (od i) with
          | false =>
            exact ⟨fun _ => keep (by
              show (if _ then _ else _) = _
              rw [hA, if_neg (by simp)]), fun q => absurd rfl q⟩
          | true =>
            refine ⟨fun q => absurd q (by decide), fun _ => ?_⟩
            rcases hbs with ⟨e, -⟩ | ⟨e, -⟩
            · rw [if_pos e] at keep ⊢
              exact ⟨fun _ => new (by
                show (if _ then _ else _) = _
                rw [hA, e]; simp), fun q => absurd rfl q⟩
            · have hbn : bst n a od s.1 i < n := by omega
              have hob := ho _ hbn
              rw [if_neg (show ¬ bst n a od s.1 i = n by omega)] at keep ⊢
              refine ⟨fun q => absurd q (nI_ne9 (by omega)), fun _ => tM_height hn hs ho (by rw [m1 100 (by omega)]; exact h0) (mfJ J2 m1) o1 (tM_height hn hs ho (by rw [m1 100 (by omega)]; exact h0) (mfJ J2 m1) hob.1 ?_)⟩
              have hH1 := Ht_le (n := n) (a := a) (od := od) i
              have hH2 := Ht_le (n := n) (a := a) (od := od) (bst n a od s.1 i)
              rw [o2, hob.2.1, nI_leI (by omega) (by omega)]
              refine ⟨fun q => keep ?_, fun q => new ?_⟩
              · show (if _ then _ else _) = _
                rw [decide_eq_false (show ¬ bst n a od s.1 i = n by omega), decide_eq_false (by omega)]; simp
              · show (if _ then _ else _) = _
                rw [hA, decide_eq_true (show Ht n a od (bst n a od s.1 i) < Ht n a od i by omega)]; simp
        · rintro x y X3 ⟨rfl, rfl⟩
          unfold MD_planFor_55b
          dsimp only
          simp only [jrs]
          rw [m1 100 (by omega), h0]
          refine ⟨fun _ => ?_, fun q => absurd (nI_le (Nat.le_refl n) (by omega)) q⟩
          rcases bst_spec (n := n) (a := a) (od := od) s.1 n (Nat.le_refl n) with ⟨e, -⟩ | ⟨e, -⟩
          · rw [if_pos e]
            refine ⟨fun _ => go2 _ _ _ ?_, fun q => absurd rfl q⟩
            rw [pst_none (by omega)]
            exact ⟨rfl, nI_1 k, m1, m2⟩
          · rw [if_neg (by omega)]
            have hob := ho _ e
            refine ⟨fun q => absurd q (nI_ne9 (by omega)), fun _ => ⟨vp_in_nI (by omega) (by omega), fun J3 f3 => go2 _ _ _ ?_⟩⟩
            have hct := pst_ct ho hp e
            have hle := fb_ct_le (pst n a od t s).2.1 n
            rw [clamp (by omega)] at f3
            refine ⟨?_, nI_1 k, fun x hx => by rw [f3, jwr_ne hx]; exact m1 x hx, fun u hu => ?_⟩
            · rw [hct, nI_m1, show n - fb_ct s.2.1 n = (n - (fb_ct s.2.1 n + 1)) + 1 by omega, nI_pred]
            · rw [f3, jwr_at]
              unfold pst
              rw [if_pos e]
              dsimp only
              by_cases eu : u = od (bst n a od s.1 n)
              · rw [if_pos ⟨rfl, eu⟩, if_pos eu, if_pos (by rw [decide_eq_true eu]; simp)]
              · rw [if_neg (fun hh => eu hh.2), if_neg eu, m2 u hu]; simp [eu]
      · rintro x y J2 X2 ⟨rfl, rfl, m1, m2⟩
        unfold MD_planFor_42b
        dsimp only
        exact ⟨fun _ => go _ _ _ ⟨by rw [hfin], nI_1 t, m1, by rw [hfin]; exact m2⟩, fun q => absurd (nI_le (Nat.le_refl h) (by omega)) q⟩
    · rintro x y J X ⟨rfl, rfl, j1, j2⟩
      have hyes := Tend_yes hs ho h1 (pl := pl)
      unfold MD_planFor_35b
      dsimp only
      rw [hyes, Nat.sub_self]
      refine ⟨fun _ => hK J j1 (fun u hu => ?_), fun q => absurd (by decide) q⟩
      rw [j2 u hu, fb_ct_all.mp hyes u hu]; rfl
    · rw [e2]
      congr 1
      have : fb_ct (PD n a od pl h 0).1 n = 0 := fb_ct_zero.mpr (fun k _ => rfl)
      omega
end PLM
theorem hands_cases (x : Int32) : (∃ h, 1 ≤ h ∧ h ≤ 24 ∧ x = nI h) ∨ (1 ≤ x ∧ ¬ x ≤ 24) ∨ ¬ 1 ≤ x := by
  by_cases h1 : (1 : Int32) ≤ x
  · by_cases h2 : x ≤ 24
    · refine Or.inl ?_
      rw [Int32.le_iff_toInt_le] at h1 h2
      have e1 : (1 : Int32).toInt = 1 := by decide
      have e24 : (24 : Int32).toInt = 24 := by decide
      refine ⟨x.toInt.toNat, by omega, by omega, ?_⟩
      exact nI_of_toInt (by omega) (by omega)
    · exact Or.inr (Or.inl ⟨h1, h2⟩)
  · exact Or.inr (Or.inr h1)
/-- plan(hands) -/
theorem law_plan {IX IM : jM} (h : RR IX IM) (a1 a2 a3 : Int32) : lawN_26 RR IX IM a1 a2 a3 := by
  obtain ⟨n, p, a, hd, od, pl, sd, gn, wd, hok, xt, xr, xf, xl, xg, xw, mt, mr, mg, mw, ml, hc⟩ := id h
  have hn := hok.2.1
  have hs := hok.2.2.2.2.1
  have ho : Perm n od pl := hok.2.2.2.2.2.1
  unfold lawN_26 OO_plan
  simp only [jrs]
  rcases hands_cases a1 with ⟨k, k1, k24, rfl⟩ | ⟨q1, q2⟩ | q1
  · have g1 : (1 : Int32) ≤ nI k := nI_le (a := 1) k1 (by omega)
    have g2 : nI k ≤ (24 : Int32) := nI_le (b := 24) k24 (by omega)
    refine ⟨fun _ => ⟨fun _ => t_fullNet hn hs ho xt xr xf (fun JX eX eX0 x9 xf2 => ⟨j55.1, j55.2, ?_⟩), fun q => absurd g2 q⟩, fun q => absurd g1 q⟩
    obtain ⟨-, -, -, f4, f5, f6, -⟩ := xf2.on x9
    refine t_planX hn hs ho (xr.fr (fun c _ _ => eX c (by omega) (by omega))) (fun i hi => XF_ht hs ho f5 n i hi (by omega)) (fun u hu => by have := f6 (pl u) (ho u hu).2.2.1; rw [(ho u hu).2.2.2] at this; exact this) k1 k24 (fun J2 e2 r2 => ?_)
    unfold MD_plan MD_planFor
    refine ⟨fun _ => ⟨fun _ => tM_goThrough hn hs (okp hok) ho mt mr (fun JM eM eM0 mf => ?_), fun q => absurd g2 q⟩, fun q => absurd g1 q⟩
    refine tM_plan hn hs ho (by rw [eM0 0 (by omega)]; exact mt.1) (mr.fr (eM 103 (by omega) (by omega))) mf k1 k24 (fun J3 e3 r3 => ⟨rfl, ?_⟩)
    exact rr_full hok xt xr xl xg xw mt mr mg mw ml hc (fun x h1 h2 h3 h4 => by rw [e2 x h4]; exact eX x h1 h2) (by rw [e2 0 (by omega)]; exact eX0 10 (by omega)) (xf2.fr (by rw [e2 0 (by omega)]) (fun c _ _ => e2 c (by omega))) (fun x h1 h2 h3 h4 => by rw [e3 x h3]; exact eM x h1 h2) (fun k hk => by rw [e3 100 (by omega)]; exact eM0 k hk)
  · refine ⟨fun _ => ⟨fun q => absurd q q2, fun _ => tX_refuse (k := 6) (by omega) (by omega) m6_eq ?_⟩, fun q => absurd q1 q⟩
    unfold MD_plan
    exact ⟨fun _ => ⟨fun q => absurd q q2, fun _ => tM_refuse (k := 6) (by omega) (by omega) m6_eq ⟨rfl, h.refuse 6 (by omega) (by omega)⟩⟩, fun q => absurd q1 q⟩
  · refine ⟨fun q => absurd q q1, fun _ => tX_refuse (k := 4) (by omega) (by omega) m4_eq ?_⟩
    unfold MD_plan
    exact ⟨fun q => absurd q q1, fun _ => tM_refuse (k := 4) (by omega) (by omega) m4_eq ⟨rfl, h.refuse 4 (by omega) (by omega)⟩⟩
/-- round(hands, u) -/
theorem law_round {IX IM : jM} (h : RR IX IM) (a1 a2 a3 : Int32) : lawN_27 RR IX IM a1 a2 a3 := by
  obtain ⟨n, p, a, hd, od, pl, sd, gn, wd, hok, xt, xr, xf, xl, xg, xw, mt, mr, mg, mw, ml, hc⟩ := id h
  have hn1 := hok.1
  have hn := hok.2.1
  have hs := hok.2.2.2.2.1
  have ho : Perm n od pl := hok.2.2.2.2.2.1
  unfold lawN_27 OO_round
  simp only [jrs]
  rcases who a2 hn with ⟨u, hu, rfl⟩ | ⟨-, hx⟩
  · refine tX_isNobody_no hn xt.1 hu ⟨fun _ => ?_, fun q => absurd rfl q⟩
    have hv : vp_in (nI u) 24 := vp_in_nI (by omega) (by omega)
    rcases hands_cases a1 with ⟨k, k1, k24, rfl⟩ | ⟨q1, q2⟩ | q1
    · have g1 : (1 : Int32) ≤ nI k := nI_le (a := 1) k1 (by omega)
      have g2 : nI k ≤ (24 : Int32) := nI_le (b := 24) k24 (by omega)
      refine ⟨fun _ => ⟨fun _ => t_fullNet hn hs ho xt xr xf (fun JX eX eX0 x9 xf2 => ⟨j55.1, j55.2, ?_⟩), fun q => absurd g2 q⟩, fun q => absurd g1 q⟩
      obtain ⟨-, -, -, f4, f5, f6, -⟩ := xf2.on x9
      refine t_planX hn hs ho (xr.fr (fun c _ _ => eX c (by omega) (by omega))) (fun i hi => XF_ht hs ho f5 n i hi (by omega)) (fun u hu => by have := f6 (pl u) (ho u hu).2.2.1; rw [(ho u hu).2.2.2] at this; exact this) k1 k24 (fun J2 e2 r2 => ⟨hv, ?_⟩)
      unfold MD_round
      refine tM_isUnknown_yes hn mt.1 hu ⟨fun _ => ⟨fun _ => ⟨fun _ => ?_, fun q => absurd g2 q⟩, fun q => absurd g1 q⟩, fun q => absurd q (by decide)⟩
      unfold MD_round_36 MD_planFor
      refine ⟨fun _ => tM_goThrough hn hs (okp hok) ho mt mr (fun JM eM eM0 mf => ?_), fun q => absurd (by decide) q⟩
      refine tM_plan hn hs ho (by rw [eM0 0 (by omega)]; exact mt.1) (mr.fr (eM 103 (by omega) (by omega))) mf k1 k24 (fun J3 e3 r3 => ⟨hv, ?_, ?_⟩)
      · simp only [jrs]
        rw [clamp (by omega), r2 u hu, r3 u hu]
      · exact rr_full hok xt xr xl xg xw mt mr mg mw ml hc (fun x h1 h2 h3 h4 => by rw [e2 x h4]; exact eX x h1 h2) (by rw [e2 0 (by omega)]; exact eX0 10 (by omega)) (xf2.fr (by rw [e2 0 (by omega)]) (fun c _ _ => e2 c (by omega))) (fun x h1 h2 h3 h4 => by rw [e3 x h3]; exact eM x h1 h2) (fun k hk => by rw [e3 100 (by omega)]; exact eM0 k hk)
    · refine ⟨fun _ => ⟨fun q => absurd q q2, fun _ => tX_refuse (k := 6) (by omega) (by omega) m6_eq ?_⟩, fun q => absurd q1 q⟩
      unfold MD_round
      refine tM_isUnknown_yes hn mt.1 hu ⟨fun _ => ⟨fun _ => ⟨fun q => absurd q q2, fun _ => ?_⟩, fun q => absurd q1 q⟩, fun q => absurd q (by decide)⟩
      unfold MD_round_36
      exact ⟨fun q => absurd q (by decide), fun _ => tM_refuse (k := 6) (by omega) (by omega) m6_eq ⟨rfl, h.refuse 6 (by omega) (by omega)⟩⟩
    · refine ⟨fun q => absurd q q1, fun _ => tX_refuse (k := 4) (by omega) (by omega) m4_eq ?_⟩
      unfold MD_round
      refine tM_isUnknown_yes hn mt.1 hu ⟨fun _ => ⟨fun q => absurd q q1, fun _ => ?_⟩, fun q => absurd q (by decide)⟩
      unfold MD_round_36
      exact ⟨fun q => absurd q (by decide), fun _ => tM_refuse (k := 4) (by omega) (by omega) m4_eq ⟨rfl, h.refuse 4 (by omega) (by omega)⟩⟩
  · refine tX_isNobody_yes xt.1 hx ⟨fun q => absurd q (by decide), fun _ => tX_refuse (k := 1) (by omega) (by omega) m1_eq ?_⟩
    unfold MD_round
    exact tM_isUnknown_no hn1 hn mt.1 hx ⟨fun q => absurd rfl q, fun _ => tM_refuse (k := 1) (by omega) (by omega) m1_eq ⟨rfl, h.refuse 1 (by omega) (by omega)⟩⟩
