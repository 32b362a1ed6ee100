def kc4 (n : Nat) (hd : Nat → Bool) (gn : List Nat) (u : Nat) : Prop := hd u = true ∧ ∃ w, w < n ∧ w ∉ gn ∧ hd w = false
def kc3 (g : Gr) (u : Nat) : Prop := ∀ w, w < 24 → g u w = false
def kc2 (g : Gr) (u : Nat) : Prop := ∃ w, w < u ∧ g u w = true ∧ ∀ i, i < 24 → (g w i || decide (i = w)) = (g u i || decide (i = u))
def KD (n : Nat) (hd : Nat → Bool) (gn : List Nat) (g : Gr) (u : Nat) (v : Int32) : Prop :=
  (kc4 n hd gn u ∧ v = 4) ∨ (¬ kc4 n hd gn u ∧ kc3 g u ∧ v = 3) ∨ (¬ kc4 n hd gn u ∧ ¬ kc3 g u ∧ kc2 g u ∧ v = 2) ∨ (¬ kc4 n hd gn u ∧ ¬ kc3 g u ∧ ¬ kc2 g u ∧ v = if ms g u = 0 then 1 else 0)
theorem KD_ex (n : Nat) (hd : Nat → Bool) (gn : List Nat) (g : Gr) (u : Nat) : ∃ v, KD n hd gn g u v := by
  unfold KD
  by_cases h4 : kc4 n hd gn u
  · exact ⟨4, Or.inl ⟨h4, rfl⟩⟩
  · by_cases h3 : kc3 g u
    · exact ⟨3, Or.inr (Or.inl ⟨h4, h3, rfl⟩)⟩
    · by_cases h2 : kc2 g u
      · exact ⟨2, Or.inr (Or.inr (Or.inl ⟨h4, h3, h2, rfl⟩))⟩
      · exact ⟨_, Or.inr (Or.inr (Or.inr ⟨h4, h3, h2, rfl⟩))⟩
section KN
variable {n p : Nat} {a : Nat → Nat → Nat} {hd : Nat → Bool} {sd : Nat → Nat} {gn : List Nat} {I : jM} {u : Nat} {v : Int32}
theorem t_kind (hn : n ≤ 24) (hs : ∀ u w, u < n → w < n → a u w < p ∧ a u w = a w u) (xg : XG n a gn I) (hu : u < n) (hun : u ∉ gn) (hkd : KD n hd gn (elL (adj n a) gn) u v) {K : Int32 → Prop} (hK : K v) : GO_kind 64 (nI u) (mk (fun u => decide (u < n) && hd u)) I K := by
  refine t_kindX hn hs xg hu hun (fun h1 h2 => ?_) (fun h1 h2 => ?_) (fun h1 h2 h3 => ?_) (fun h1 h2 h3 => ?_)
  · have h4 : kc4 n hd gn u := ⟨h1, h2⟩
    rcases hkd with q | q | q | q
    · rw [← q.2]; exact hK
    · exact absurd h4 q.1
    · exact absurd h4 q.1
    · exact absurd h4 q.1
  · rcases hkd with q | q | q | q
    · exact absurd q.1 h1
    · rw [← q.2.2]; exact hK
    · exact absurd h2 q.2.1
    · exact absurd h2 q.2.1
  · rcases hkd with q | q | q | q
    · exact absurd q.1 h1
    · exact absurd q.2.1 h2
    · rw [← q.2.2.2]; exact hK
    · exact absurd h3 q.2.2.1
  · rcases hkd with q | q | q | q
    · exact absurd q.1 h1
    · exact absurd q.2.1 h2
    · exact absurd q.2.2.1 h3
    · rw [← q.2.2.2]; exact hK
theorem live_of (hs : ∀ u w, u < n → w < n → a u w < p ∧ a u w = a w u) {w : Nat} (h : elL (adj n a) gn u w = true) : w < n ∧ w ∉ gn := by
  have h1 := gg_elL hs gn u w h
  refine ⟨h1.2.1, ?_⟩
  have := h1.2.2.2.1
  unfold lvL at this
  simpa using this
/-- the reference's fillsOf at u, on its rows in cell 113 -/
theorem tM_fills113 (hn : n ≤ 24) (hs : ∀ u w, u < n → w < n → a u w < p ∧ a u w = a w u) (hg : gn.Nodup) (mg : MG n a gn I) {K : Int32 → Prop} (hK : K (nI (ms (elL (adj n a) gn) u))) : MD_fillsOf 113 (mk (elL (adj n a) gn u)) I K := by
  refine tM_fillsOf (c := 113) (rw1 := mlL (adj n a) [] gn) (by decide +kernel) (fun w hw hnw => mg.2.2.1 w (live_of hs hnw).1) ?_
  have ems : fb_sm (fun w => if elL (adj n a) gn u w then ct (fun y => elL (adj n a) gn u y && !mlL (adj n a) [] gn w y && !decide (y = w)) else 0) 24 / 2 = ms (elL (adj n a) gn) u := by
    unfold ms
    congr 1
    apply fb_sm_cong
    intro w _
    by_cases hw : elL (adj n a) gn u w = true
    · rw [if_pos hw, if_pos hw]
      apply ct_cong
      intro y _
      by_cases hy : elL (adj n a) gn u y = true
      · have h1 := near_eq hs hg (live_of hs hw).2 y
        have h2 := (live_of hs hy).2
        simp [h2] at h1
        rw [h1]
      · simp [hy]
    · rw [if_neg hw, if_neg hw]
  rw [ems]
  exact hK
theorem ms_le (g : Gr) (u : Nat) : ms g u ≤ 288 := by
  unfold ms
  have : fb_sm (fun w => if g u w then ct (fun y => g u y && !g w y && !decide (y = w)) else 0) 24 ≤ 24 * 24 := fb_sm_bound (fun w _ => by
    split
    · exact ct_le _
    · exact Nat.zero_le _)
  omega
theorem tM_kindOf (hn : n ≤ 24) (hs : ∀ u w, u < n → w < n → a u w < p ∧ a u w = a w u) (hg : gn.Nodup) (hb : ∀ u ∈ gn, u < n) (mt : MT n p a hd sd I) (mg : MG n a gn I) (hu : u < n) (hun : u ∉ gn) (hkd : KD n hd gn (elL (adj n a) gn) u v) {K : Int32 → Prop} (hK : K v) : MD_kindOf 100 (nI u) I K := by
  have hG := gg_elL hs gn
  have rest : ¬ kc4 n hd gn u → MD_kindOf_59 100 (nI u) (mk (elL (adj n a) gn u)) I K := by
    intro h4
    unfold MD_kindOf_59
    refine ⟨fun q => ?_, fun q => ?_⟩
    · have h3 : ¬ kc3 (elL (adj n a) gn) u := fun hh => q (mk_zero.mpr hh)
      unfold MD_kindOf_68
      have eqv : ∀ k, k < u → elL (adj n a) gn u k = true → ((mk (elL (adj n a) gn u) &&& (mk (fun i => decide (i = k)) ^^^ (-1)) = mk (elL (adj n a) gn k) &&& (mk (fun i => decide (i = u)) ^^^ (-1))) ↔ ∀ i, i < 24 → (elL (adj n a) gn k i || decide (i = k)) = (elL (adj n a) gn u i || decide (i = u))) := by
        intro k hk hgk
        have hku := hG.symm u k
        rw [hgk] at hku
        have huu : elL (adj n a) gn u u = false := by
          cases hh : elL (adj n a) gn u u with
          | true => exact absurd rfl (hG u u hh).2.2.2.2.1
          | false => rfl
        have hkk : elL (adj n a) gn k k = false := by
          cases hh : elL (adj n a) gn k k with
          | true => exact absurd rfl (hG k k hh).2.2.2.2.1
          | false => rfl
        rw [mk_diff, mk_diff]
        constructor
        · intro hh i hi
          have h1 := mk_inj hh i hi
          by_cases e1 : i = k
          · subst e1; simp [hgk]
          · by_cases e2 : i = u
            · subst e2; simp [← hku]
            · simp [e1, e2] at h1 ⊢; exact h1.symm
        · intro hh
          apply mk_ext
          intro i hi
          have h1 := hh i hi
          by_cases e1 : i = k
          · subst e1; simp [hkk]
          · by_cases e2 : i = u
            · subst e2; simp [huu]
            · simp [e1, e2] at h1 ⊢; exact h1.symm
      refine lp_n u (fun k (s : Int32) => s = nI k ∧ ∀ w, w < k → ¬ (elL (adj n a) gn u w = true ∧ ∀ i, i < 24 → (elL (adj n a) gn w i || decide (i = w)) = (elL (adj n a) gn u i || decide (i = u)))) ?_ ?_ (Nat.zero_le _) ⟨rfl, fun w h => absurd h (Nat.not_lt_zero w)⟩
      · rintro k s X hk ⟨rfl, hprev⟩ go
        unfold MD_kindOf_68b
        rw [mk_tst1 _ (by omega)]
        refine ⟨fun q => absurd q (ge_no hk (by omega)), fun _ => ⟨fun q2 => go _ ⟨nI_1 k, fun w hw => ?_⟩, fun q2 => ?_⟩⟩
        · by_cases e : w = k
          · subst e; exact fun hh => q2 hh.1
          · exact hprev w (by omega)
        · obtain ⟨hk1, hk2⟩ := live_of hs q2
          refine tM_around hn hs hg hb mg hk1 hk2 ?_
          rw [mk_one (by omega), mk_one (by omega), eqv k hk q2]
          refine ⟨fun q3 => go _ ⟨nI_1 k, fun w hw => ?_⟩, fun q3 => ?_⟩
          · by_cases e : w = k
            · subst e; exact fun hh => q3 hh.2
            · exact hprev w (by omega)
          · have h2 : kc2 (elL (adj n a) gn) u := ⟨k, hk, q2, q3⟩
            rcases hkd with z | z | z | z
            · exact absurd z.1 h4
            · exact absurd z.2.1 h3
            · rw [← z.2.2.2]; exact hK
            · exact absurd h2 z.2.2.1
      · rintro s X ⟨rfl, hprev⟩
        unfold MD_kindOf_68b
        simp only [jrs]
        refine ⟨fun _ => tM_fills113 hn hs hg mg ?_, fun q4 => absurd (nI_le (Nat.le_refl _) (by omega)) q4⟩
        have h2 : ¬ kc2 (elL (adj n a) gn) u := fun ⟨w, hw, hh⟩ => hprev w hw hh
        have hm := ms_le (elL (adj n a) gn) u
        rcases hkd with z | z | z | z
        · exact absurd z.1 h4
        · exact absurd z.2.1 h3
        · exact absurd z.2.2.1 h2
        · rw [z.2.2.2] at hK
          by_cases e : ms (elL (adj n a) gn) u = 0
          · rw [if_pos e] at hK
            exact ⟨fun q4 => absurd (by rw [e]; rfl) q4, fun _ => hK⟩
          · rw [if_neg e] at hK
            exact ⟨fun _ => hK, fun q4 => absurd q4 (nI_ne0 (by omega) (by omega))⟩
    · have h3 : kc3 (elL (adj n a) gn) u := mk_zero.mp q
      rcases hkd with z | z | z | z
      · exact absurd z.1 h4
      · rw [← z.2.2]; exact hK
      · exact absurd h3 z.2.1
      · exact absurd h3 z.2.1
  unfold MD_kindOf
  refine tM_goneBits hn hg hb mg (tM_around hn hs hg hb mg hu hun ?_)
  unfold MD_kindOf_14
  refine lp_n n (fun k (s : Int32) => s = nI k ∧ (hd u = true → ∀ w, w < k → ¬ (w ∉ gn ∧ hd w = false))) ?_ ?_ (Nat.zero_le _) ⟨rfl, fun _ w h => absurd h (Nat.not_lt_zero w)⟩
  · rintro k s X hk ⟨rfl, hprev⟩ go
    unfold MD_kindOf_14b
    simp only [jrs]
    rw [mt.1, clamp (by omega), clamp (by omega), mt.2.2.2.1 u hu, mt.2.2.2.1 k hk, mk_tst0 _ (by omega)]
    refine ⟨fun q => absurd q (ge_no hk (by omega)), fun _ => ⟨vp_in_nI (by omega) (by omega), fun q => rest (fun hh => ?_), fun q => ⟨vp_in_nI (by omega) (by omega), fun q2 => go _ ⟨nI_1 k, fun hhd w hw => ?_⟩, fun q2 => ⟨fun q3 => go _ ⟨nI_1 k, fun hhd w hw => ?_⟩, fun q3 => ?_⟩⟩⟩⟩
    · rw [hh.1] at q; exact absurd q (by decide)
    · by_cases e : w = k
      · subst e
        rintro ⟨-, hf⟩
        rw [hf] at q2; exact q2 rfl
      · exact hprev hhd w (by omega)
    · by_cases e : w = k
      · subst e
        rintro ⟨hf, -⟩
        exact q3 (by simpa using hf)
      · exact hprev hhd w (by omega)
    · have hdu : hd u = true := by
        cases hh : hd u with
        | true => rfl
        | false => rw [hh] at q; exact absurd rfl q
      have hdk : hd k = false := by
        cases hh : hd k with
        | false => rfl
        | true => rw [hh] at q2; exact absurd q2 (by decide)
      have h4 : kc4 n hd gn u := ⟨hdu, k, hk, by simpa using q3, hdk⟩
      rcases hkd with z | z | z | z
      · rw [← z.2]; exact hK
      · exact absurd h4 z.1
      · exact absurd h4 z.1
      · exact absurd h4 z.1
  · rintro s X ⟨rfl, hprev⟩
    unfold MD_kindOf_14b
    rw [mt.1]
    refine ⟨fun _ => rest (fun ⟨h1, w, h2, h3, h5⟩ => hprev h1 w h2 ⟨h3, h5⟩), fun q => absurd (nI_le (Nat.le_refl _) (by omega)) q⟩
end KN
/-- going(u, what) -/
theorem law_going {IX IM : jM} (h : RR IX IM) (a1 a2 a3 : Int32) : lawN_17 RR IX IM a1 a2 a3 := by
  obtain ⟨n, p, a, hd, od, pl, sd, gn, wd, hok, xt, xr, xf, xl, xg, xw, mt, mr, mg, mw, ml, hc⟩ := id h
  have hn := hok.2.1
  have hn1 := hok.1
  have hs := hok.2.2.2.2.1
  have hg := hok.2.2.2.2.2.2.2.1
  have hb := hok.2.2.2.2.2.2.2.2
  unfold lawN_17 OO_going
  simp only [jrs]
  rcases who a1 hn with ⟨u, hu, rfl⟩ | ⟨-, hx⟩
  · refine tX_isNobody_no hn xt.1 hu ⟨fun _ => t_has xg.nk hu hn ?_, fun q => absurd rfl q⟩
    by_cases hun : u ∈ gn
    · have hl : lvL gn u = false := by unfold lvL; simp [hun]
      rw [hl]
      refine ⟨fun q => absurd rfl q, fun _ => tX_refuse (k := 3) (by omega) (by omega) m3_eq ?_⟩
      unfold MD_going
      refine tM_lacks hn1 hn hg hb mt.1 mg hu ?_
      rw [if_pos hun]
      exact ⟨fun q => absurd q (by decide), fun _ => tM_refuse (k := 3) (by omega) (by omega) m3_eq ⟨rfl, h.refuse 3 (by omega) (by omega)⟩⟩
    · have hl : lvL gn u = true := by unfold lvL; simp [hun]
      rw [hl]
      obtain ⟨v, hv⟩ := KD_ex n hd gn (elL (adj n a) gn) u
      have mdl : ∀ (r : Int32), (a2 = 0 → r = v) → (a2 = 1 → r = nI (ct (elL (adj n a) gn u))) → (a2 = 2 → r = mk (elL (adj n a) gn u)) → (a2 = 3 → r = nI (ms (elL (adj n a) gn) u)) → (¬ a2 = 0 → ¬ a2 = 1 → ¬ a2 = 2 → ¬ a2 = 3 → r = -9) → MD_going 100 (nI u) a2 IM (fun rm IM3 => r = rm ∧ RR IX IM3) := by
        intro r r0 r1 r2 r3 r4
        unfold MD_going
        refine tM_lacks hn1 hn hg hb mt.1 mg hu ?_
        rw [if_neg hun]
        refine ⟨fun _ => tM_around hn hs hg hb mg hu hun ?_, fun q => absurd (by decide) q⟩
        simp only [jrs]
        exact ⟨fun q0 => ⟨fun q1 => ⟨fun q2 => ⟨fun q3 => ⟨r4 q0 q1 q2 q3, h⟩, fun q3 => tM_fills113 hn hs hg mg ⟨r3 q3, h⟩⟩, fun q2 => ⟨r2 q2, h⟩⟩, fun q1 => t_ones _ _ _ ⟨r1 q1, h⟩⟩, fun q0 => tM_kindOf hn hs hg hb mt mg hu hun hv ⟨r0 q0, h⟩⟩
      have hrow := xg.nk.2.2 u hu hl
      refine ⟨fun _ => ⟨fun q => ?_, fun q => ⟨vp_in_nI (by omega) (by omega), ?_⟩, fun q => ⟨vp_in_nI (by omega) (by omega), ?_⟩, fun q => ?_, fun q0 q1 q2 q3 => ?_⟩, fun q => absurd q (by decide)⟩
      · rw [xt.2.2.2.2.1]
        refine t_kind hn hs xg hu hun hv (mdl v (fun _ => rfl) ?_ ?_ ?_ ?_) <;> intro q1 <;> rw [q] at q1 <;> first | exact absurd q1 (by decide) | exact absurd rfl q1
      · rw [clamp (by omega), hrow]
        refine t_bitCount _ _ _ (mdl _ ?_ (fun _ => rfl) ?_ ?_ ?_) <;> intro q1 <;> (try intro q2) <;> rw [q] at * <;> first | exact absurd q1 (by decide) | exact absurd rfl q2
      · rw [clamp (by omega), hrow]
        refine mdl _ ?_ ?_ (fun _ => rfl) ?_ ?_ <;> intro q1 <;> (try intro q2) <;> (try intro q3) <;> rw [q] at * <;> first | exact absurd q1 (by decide) | exact absurd rfl q3
      · refine t_missing okh65 xg.nk (gg_elL hs gn) hu hl hn (mdl _ ?_ ?_ ?_ (fun _ => rfl) ?_) <;> intro q1 <;> (try intro q2) <;> (try intro q3) <;> (try intro q4) <;> rw [q] at * <;> first | exact absurd q1 (by decide) | exact absurd rfl q4
      · exact mdl _ (fun z => absurd z q0) (fun z => absurd z q1) (fun z => absurd z q2) (fun z => absurd z q3) (fun _ _ _ _ => rfl)
  · refine tX_isNobody_yes xt.1 hx ⟨fun q => absurd q (by decide), fun _ => tX_refuse (k := 1) (by omega) (by omega) m1_eq ?_⟩
    unfold MD_going
    exact tM_lacks_no hn1 hn mt.1 hx ⟨fun q => absurd q (by decide), fun _ => tM_refuse (k := 1) (by omega) (by omega) m1_eq ⟨rfl, h.refuse 1 (by omega) (by omega)⟩⟩
