/-! ===== group ===== -/
section GRP
variable {n p : Nat} {a : Nat → Nat → Nat} {od pl : Nat → Nat} {I : jM}
theorem tM_best (hn : n ≤ 24) (hs : ∀ u w, u < n → w < n → a u w < p ∧ a u w = a w u) (ho : Perm n od pl) (h0 : I 100 0 = nI n) (m : MFN n a od n I) {last : Nat} (hl : last < 2 ^ 24) {v1 v3 : Int32} {K : Int32 → jM → Prop} {X8 : Int32 × Int32 → Prop}
    (h1 : ∀ b, (∃ i, i < n ∧ b = mkN (cl n a od i) 24 ∧ noin n a od i) → last < b → (∀ i, i < n → noin n a od i → last < mkN (cl n a od i) 24 → b ≤ mkN (cl n a od i) 24) → X8 (nI b, v3 + 1)) (h2 : (∀ i, i < n → noin n a od i → mkN (cl n a od i) 24 ≤ last) → K (-9) I) : MD_group_19 100 v1 (nI last) v3 0 0 I K X8 := by
  have hbu : ∀ w, w < n → I 107 w ||| mk (fun i => decide (i = w)) = nI (mkN (cl n a od (pl w)) 24) := fun w hw => by
    rw [m.bh ho hw, mk_or]
    show _ = mk (cl n a od (pl w))
    unfold cl
    rw [(ho w hw).2.2.2]
  have hlt : ∀ i, mkN (cl n a od i) 24 < 2 ^ 24 := fun i => mkN_lt _ 24
  have hpos : ∀ i, i < n → 0 < mkN (cl n a od i) 24 := fun i hi => by
    rcases Nat.eq_zero_or_pos (mkN (cl n a od i) 24) with h | h
    · have := congrArg (fun z => z.testBit (od i)) h
      simp only [mkN_bit, Nat.zero_testBit] at this
      have e : cl n a od i (od i) = true := by unfold cl; simp
      rw [e, decide_eq_true (show od i < 24 by have := (ho i hi).1; omega)] at this
      cases this
    · exact h
  unfold MD_group_19
  refine lp_n2 n (fun k x y => y = nI k ∧ ((x = 0 ∧ ∀ u, u < k → noin n a od (pl u) → mkN (cl n a od (pl u)) 24 ≤ last) ∨ ∃ b, x = nI b ∧ (∃ u, u < k ∧ b = mkN (cl n a od (pl u)) 24 ∧ noin n a od (pl u)) ∧ last < b ∧ ∀ u, u < k → noin n a od (pl u) → last < mkN (cl n a od (pl u)) 24 → b ≤ mkN (cl n a od (pl u)) 24)) ?_ ?_ (Nat.zero_le _) ⟨rfl, Or.inl ⟨rfl, fun u hu => absurd hu (Nat.not_lt_zero u)⟩⟩
  · rintro k x y X hk ⟨rfl, hx⟩ go
    obtain ⟨k1, k2, k3, k4⟩ := ho k hk
    unfold MD_group_19b
    dsimp only
    simp only [jrs]
    rw [h0, clamp (by omega), mk_one (by omega), hbu k hk]
    refine ⟨fun q => absurd q (ge_no hk (by omega)), fun _ => ⟨vp_in_nI (by omega) (by omega), fun v6 e6 => ?_⟩⟩
    subst e6
    unfold MD_group_48
    refine lp_n2 n (fun j f y => y = nI j ∧ ((f = 1 ∧ ∀ w, w < j → w ≠ k → ∃ z, z < n ∧ cl n a od (pl k) z = true ∧ cl n a od (pl w) z = false) ∨ (f = 0 ∧ ¬ noin n a od (pl k)))) ?_ ?_ (Nat.zero_le _) ⟨rfl, Or.inl ⟨rfl, fun w hw => absurd hw (Nat.not_lt_zero w)⟩⟩
    · rintro j f y X2 hj ⟨rfl, hf⟩ go2
      unfold MD_group_48b
      dsimp only
      simp only [jrs]
      rw [h0, clamp (by omega), mk_one (by omega), hbu j hj]
      refine ⟨fun q => absurd q (ge_no hj (by omega)), fun _ => ⟨vp_in_nI (by omega) (by omega), fun v9 e9 => ?_⟩⟩
      subst e9
      rcases hf with ⟨rfl, hf⟩ | ⟨rfl, hf⟩
      · refine ⟨fun q => absurd q (by decide), fun _ => ?_⟩
        rw [nI_eq (by omega) (by omega)]
        refine ⟨fun q => go2 _ _ ⟨nI_1 j, Or.inl ⟨rfl, fun w hw hwk => hf w (by omega) hwk⟩⟩, fun q => ?_⟩
        have hsub : (nI (mkN (cl n a od (pl j)) 24) &&& nI (mkN (cl n a od (pl k)) 24) = nI (mkN (cl n a od (pl k)) 24)) ↔ ∀ z, z < 24 → (cl n a od (pl j) z && cl n a od (pl k) z) = cl n a od (pl k) z := by
          show (mk _ &&& mk _ = mk _) ↔ _
          rw [mk_and]
          exact ⟨mk_inj, mk_ext⟩
        rw [hsub]
        refine ⟨fun q2 => go2 _ _ ⟨nI_1 j, Or.inr ⟨rfl, fun hno => ?_⟩⟩, fun q2 => go2 _ _ ⟨nI_1 j, Or.inl ⟨rfl, fun w hw hwk => ?_⟩⟩⟩
        · obtain ⟨z, hz, z1, z2⟩ := hno (pl j) (ho j hj).2.2.1 (fun e => q (by rw [← (ho j hj).2.2.2, ← k4, e]))
          have := q2 z (by omega)
          rw [z1, z2] at this; cases this
        · by_cases e : w = j
          · subst e
            apply Classical.byContradiction
            intro hc
            apply q2
            intro z _
            cases c1 : cl n a od (pl k) z with
            | false => simp
            | true =>
              cases c2 : cl n a od (pl w) z with
              | true => rfl
              | false =>
                refine absurd ⟨z, ?_, c1, c2⟩ hc
                unfold cl at c1
                rw [k4] at c1
                rcases (Bool.or_eq_true _ _).mp c1 with h5 | h5
                · exact (Gi_gg (od := od) hs (pl k) _ _ h5).2.1
                · rw [of_decide_eq_true h5]; exact hk
          · exact hf w (by omega) hwk
      · exact ⟨fun _ => go2 _ _ ⟨nI_1 j, Or.inr ⟨rfl, hf⟩⟩, fun q => absurd rfl q⟩
    · rintro f y X2 ⟨rfl, hf⟩
      unfold MD_group_48b
      dsimp only
      rw [h0]
      refine ⟨fun _ => ?_, fun q => absurd (nI_le (Nat.le_refl n) (by omega)) q⟩
      have keep : (¬ noin n a od (pl k) ∨ mkN (cl n a od (pl k)) 24 ≤ last) → X (x, nI k + 1) := fun hh => go _ _ ⟨nI_1 k, by
        rcases hx with ⟨e, hx⟩ | ⟨b, e, ⟨u, hu, b1⟩, b2, b3⟩
        · refine Or.inl ⟨e, fun u hu hno => ?_⟩
          by_cases ek : u = k
          · subst ek
            rcases hh with hh | hh
            · exact absurd hno hh
            · exact hh
          · exact hx u (by omega) hno
        · refine Or.inr ⟨b, e, ⟨u, by omega, b1⟩, b2, fun w hw hno hgt => ?_⟩
          by_cases ek : w = k
          · subst ek
            rcases hh with hh | hh
            · exact absurd hno hh
            · omega
          · exact b3 w (by omega) hno hgt⟩
      rcases hf with ⟨rfl, hf⟩ | ⟨rfl, hf⟩
      · have hno : noin n a od (pl k) := fun j hj hne => by
          have := hf (od j) (ho j hj).1 (fun e => hne (by rw [← (ho j hj).2.1, e]))
          rw [(ho j hj).2.1] at this; exact this
        have hS := hlt (pl k)
        refine ⟨fun q => absurd q (by decide), fun _ => ?_⟩
        rw [nI_leI (by omega) (by omega)]
        refine ⟨fun q => keep (Or.inr q), fun q => ⟨fun q2 => go _ _ ⟨nI_1 k, Or.inr ⟨_, rfl, ⟨k, by omega, rfl, hno⟩, by omega, fun w hw hnw hgt => ?_⟩⟩, fun q2 => ?_⟩⟩
        · by_cases ek : w = k
          · subst ek; omega
          · rcases hx with ⟨e, hx⟩ | ⟨b, e, ⟨u, hu, b1⟩, b2, b3⟩
            · have := hx w (by omega) hnw; omega
            · have hb : b < 2 ^ 24 := by rw [b1.1]; exact hlt _
              rw [e] at q2
              exact absurd q2 (nI_ne0 (by omega) (by omega))
        · rcases hx with ⟨e, hx⟩ | ⟨b, e, ⟨u, hu, b1⟩, b2, b3⟩
          · exact absurd e q2
          · subst e
            have hb : b < 2 ^ 24 := by rw [b1.1]; exact hlt _
            rw [nI_leI (by omega) (by omega)]
            refine ⟨fun q3 => go _ _ ⟨nI_1 k, Or.inr ⟨b, rfl, ⟨u, by omega, b1⟩, b2, fun w hw hnw hgt => ?_⟩⟩, fun q3 => go _ _ ⟨nI_1 k, Or.inr ⟨_, rfl, ⟨k, by omega, rfl, hno⟩, by omega, fun w hw hnw hgt => ?_⟩⟩⟩
            · by_cases ek : w = k
              · subst ek; exact q3
              · exact b3 w (by omega) hnw hgt
            · by_cases ek : w = k
              · subst ek; omega
              · have := b3 w (by omega) hnw hgt; omega
      · exact ⟨fun _ => keep (Or.inl hf), fun q => absurd rfl q⟩
  · rintro x y X ⟨rfl, hx⟩
    unfold MD_group_19b
    dsimp only
    rw [h0]
    refine ⟨fun _ => ?_, fun q => absurd (nI_le (Nat.le_refl n) (by omega)) q⟩
    rcases hx with ⟨e, hx⟩ | ⟨b, e, ⟨u, hu, b1⟩, b2, b3⟩
    · refine ⟨fun q => absurd e q, fun _ => h2 (fun i hi hno => ?_)⟩
      have := hx (od i) (ho i hi).1
      rw [(ho i hi).2.1] at this
      exact this hno
    · subst e
      have hb : b < 2 ^ 24 := by rw [b1.1]; exact hlt _
      refine ⟨fun _ => h1 b ⟨pl u, (ho u hu).2.2.1, b1⟩ b2 (fun i hi hno hgt => ?_), fun q => absurd q (nI_ne0 (by omega) (by omega))⟩
      have := b3 (od i) (ho i hi).1
      rw [(ho i hi).2.1] at this
      exact this hno hgt
end GRP
theorem getD_mem {l : List Nat} {k : Nat} (h : k < l.length) : l.getD k 0 ∈ l := by
  rw [List.getD_eq_getElem?_getD, List.getElem?_eq_getElem h]
  exact List.getElem_mem h
theorem mem_getD {l : List Nat} {x : Nat} (h : x ∈ l) : ∃ k, k < l.length ∧ l.getD k 0 = x := by
  obtain ⟨k, hk, e⟩ := List.getElem_of_mem h
  exact ⟨k, hk, by rw [List.getD_eq_getElem?_getD, List.getElem?_eq_getElem hk]; exact e⟩
theorem pw_getD {l : List Nat} (h : l.Pairwise (· < ·)) {i j : Nat} (hij : i < j) (hj : j < l.length) : l.getD i 0 < l.getD j 0 := by
  rw [List.getD_eq_getElem?_getD, List.getElem?_eq_getElem (by omega), List.getD_eq_getElem?_getD, List.getElem?_eq_getElem hj]
  exact List.pairwise_iff_getElem.mp h i j (by omega) hj hij
/-- group(i) -/
theorem law_group {IX IM : jM} (h : RR IX IM) (a1 a2 a3 : Int32) : lawN_11 RR IX IM a1 a2 a3 := by
  obtain ⟨n, p, a, hd, od, pl, sd, gn, wd, hok, xt, xr, xf, xl, xg, xw, mt, mr, mg, mw, ml, hc⟩ := id h
  have hn := hok.2.1
  have hs := hok.2.2.2.2.1
  have ho : Perm n od pl := hok.2.2.2.2.2.1
  unfold lawN_11 OO_group
  refine t_fullNet hn hs ho xt xr xf (fun JX eX eX0 x9 xf2 => ⟨j55.1, j55.2, ?_⟩)
  obtain ⟨-, -, -, f4, f5, f6, gs, g1, g2, g3, g4⟩ := xf2.on x9
  have hglt : ∀ k, k < gs.length → gs.getD k 0 < 2 ^ 24 := fun k hk => by
    obtain ⟨i, -, e, -⟩ := (g4 _).mp (getD_mem hk)
    rw [e]; exact mkN_lt _ 24
  have hlen : gs.length ≤ 24 := by
    -- each of the groups is that of another place
    rcases Nat.lt_or_ge 24 gs.length with hh | hh
    · exfalso
      have : ∀ k, ∃ i, k < gs.length → i < n ∧ gs.getD k 0 = mkN (cl n a od i) 24 := fun k => by
        by_cases hk : k < gs.length
        · obtain ⟨i, hi, e, -⟩ := (g4 _).mp (getD_mem hk)
          exact ⟨i, fun _ => ⟨hi, e⟩⟩
        · exact ⟨0, fun q => absurd q hk⟩
      let f : Nat → Nat := fun k => Classical.choose (this k)
      have hf : ∀ k, k < gs.length → f k < n ∧ gs.getD k 0 = mkN (cl n a od (f k)) 24 := fun k hk => Classical.choose_spec (this k) hk
      obtain ⟨i, j, hij, hj, e⟩ := fb_twice (m := 24) (n := gs.length) (f := f) (fun i hi => by have := (hf i hi).1; omega) hh
      have h1 := (hf i (by omega)).2
      have h2 := (hf j hj).2
      rw [e, ← h2] at h1
      have := pw_getD g3 hij hj
      omega
    · exact hh
  have hM : ∀ (r : Int32), (∀ k, k < gs.length → a1 = nI k → r = nI (gs.getD k 0)) → (a1 < 0 ∨ ¬ a1 < nI gs.length → r = -9) → MD_group 100 a1 IM (fun rm IM3 => r = rm ∧ RR JX IM3) := by
    intro r r1 r2
    unfold MD_group
    refine tM_goThrough hn hs (okp hok) ho mt mr (fun JM eM eM0 mf => ?_)
    have fin : RR JX JM := rr_full hok xt xr xl xg xw mt mr mg mw ml hc (fun x h1 h2 _ _ => eX x h1 h2) (eX0 10 (by omega)) xf2 (fun x h1 h2 _ _ => eM x h1 h2) eM0
    have h0 : JM 100 0 = nI n := by rw [eM0 0 (by omega)]; exact mt.1
    unfold MD_group_8
    have ends : ∀ k, k ≤ gs.length → a1 < nI k → ∀ last : Nat, (0 < k → last = gs.getD (k - 1) 0) → (0 ≤ a1 → ∃ j, a1 = nI j ∧ k = j + 1) → ((0 ≤ a1 → (r = nI last ∧ RR JX JM)) ∧ (¬ 0 ≤ a1 → (r = -9 ∧ RR JX JM))) := by
      intro k hk hlt last hlast hex
      refine ⟨fun q => ⟨?_, fin⟩, fun q => ⟨r2 (Or.inl ?_), fin⟩⟩
      · obtain ⟨j, ej, ek⟩ := hex q
        rw [hlast (by omega), ek]
        exact r1 j (by omega) ej
      · rw [Int32.lt_iff_toInt_lt]
        rw [Int32.le_iff_toInt_le] at q
        omega
    refine lp_n2 gs.length (fun k x y => y = nI k ∧ ∃ last, x = nI last ∧ last < 2 ^ 24 ∧ (k = 0 → last = 0) ∧ (0 < k → last = gs.getD (k - 1) 0 ∧ ∃ j, a1 = nI j ∧ j < 2 ^ 31 ∧ k ≤ j + 1)) ?_ ?_ (Nat.zero_le _) ⟨rfl, 0, rfl, by decide, fun _ => rfl, fun q => absurd q (Nat.lt_irrefl 0)⟩
    · rintro k x y X hk ⟨rfl, last, rfl, l1, l2, l3⟩ go
      unfold MD_group_8b
      dsimp only
      refine ⟨fun q => ends k (by omega) q last (fun q2 => (l3 q2).1) (fun q2 => ?_), fun q => ?_⟩
      · rcases Nat.eq_zero_or_pos k with hk0 | hk0
        · subst hk0
          exfalso
          rw [Int32.le_iff_toInt_le] at q2
          rw [Int32.lt_iff_toInt_lt] at q
          exact absurd q (Int.not_lt.mpr q2)
        · obtain ⟨-, j, ej, hj, hkj⟩ := l3 hk0
          rw [ej, nI_ltI hj (by omega)] at q
          exact ⟨j, ej, by omega⟩
      · refine tM_best hn hs ho h0 mf l1 (fun b hb hgt hmin => go _ _ ⟨nI_1 k, b, rfl, ?_, fun q => absurd q (by omega), fun _ => ⟨?_, ?_⟩⟩) (fun hall => ?_)
        · obtain ⟨i, -, e, -⟩ := hb
          rw [e]; exact mkN_lt _ 24
        · rw [Nat.add_sub_cancel]
          obtain ⟨j, hj, ej⟩ := mem_getD ((g4 b).mpr hb)
          apply Nat.le_antisymm
          · obtain ⟨i, hi, e, hno⟩ := (g4 _).mp (getD_mem hk)
            rw [e]
            refine hmin i hi hno ?_
            rw [← e]
            rcases Nat.eq_zero_or_pos k with hk0 | hk0
            · rw [l2 hk0]
              rcases Nat.eq_zero_or_pos (gs.getD k 0) with hz | hz
              · exfalso
                rw [e] at hz
                have := congrArg (fun z => z.testBit (od i)) hz
                simp only [mkN_bit, Nat.zero_testBit] at this
                have e2 : cl n a od i (od i) = true := by unfold cl; simp
                rw [e2, decide_eq_true (show od i < 24 by have := (ho i hi).1; omega)] at this
                cases this
              · exact hz
            · rw [(l3 hk0).1]
              exact pw_getD g3 (by omega) hk
          · rcases Nat.lt_or_ge j k with hjk | hjk
            · exfalso
              rw [← ej, (l3 (by omega)).1] at hgt
              rcases Nat.eq_or_lt_of_le (show j ≤ k - 1 by omega) with h5 | h5
              · rw [h5] at hgt; omega
              · have := pw_getD g3 h5 (show k - 1 < gs.length by omega); omega
            · rw [← ej]
              rcases Nat.eq_or_lt_of_le hjk with h5 | h5
              · rw [h5]; exact Nat.le_refl _
              · exact Nat.le_of_lt (pw_getD g3 h5 hj)
        · have q0 : ¬ a1 < 0 := fun hh => q (by
            rw [Int32.lt_iff_toInt_lt] at hh ⊢
            rw [nI_toInt (by omega)]
            have : (0 : Int32).toInt = 0 := rfl
            omega)
          obtain ⟨j, hj, ej⟩ := nI_of q0
          refine ⟨j, ej, hj, ?_⟩
          rw [ej, nI_ltI hj (by omega)] at q
          omega
        · exfalso
          obtain ⟨i, hi, e, hno⟩ := (g4 _).mp (getD_mem hk)
          have h5 := hall i hi hno
          rw [← e] at h5
          rcases Nat.eq_zero_or_pos k with hk0 | hk0
          · rw [l2 hk0] at h5
            have hz : mkN (cl n a od i) 24 = 0 := by rw [← e]; omega
            have := congrArg (fun z => z.testBit (od i)) hz
            simp only [mkN_bit, Nat.zero_testBit] at this
            have e2 : cl n a od i (od i) = true := by unfold cl; simp
            rw [e2, decide_eq_true (show od i < 24 by have := (ho i hi).1; omega)] at this
            cases this
          · rw [(l3 hk0).1] at h5
            have := pw_getD g3 (show k - 1 < k by omega) hk
            omega
    · rintro x y X ⟨rfl, last, rfl, l1, l2, l3⟩
      unfold MD_group_8b
      dsimp only
      refine ⟨fun q => ends gs.length (Nat.le_refl _) q last (fun q2 => (l3 q2).1) (fun q2 => ?_), fun q => ?_⟩
      · rcases Nat.eq_zero_or_pos gs.length with hk0 | hk0
        · exfalso
          rw [hk0] at q
          rw [Int32.le_iff_toInt_le] at q2
          rw [Int32.lt_iff_toInt_lt] at q
          exact absurd q (Int.not_lt.mpr q2)
        · obtain ⟨-, j, ej, hj, hkj⟩ := l3 hk0
          rw [ej, nI_ltI hj (by omega)] at q
          exact ⟨j, ej, by omega⟩
      · have nogt : ∀ b, b ∈ gs → ¬ last < b := fun b hb hgt => by
          obtain ⟨j, hj, ej⟩ := mem_getD hb
          rw [(l3 (by omega)).1, ← ej] at hgt
          rcases Nat.eq_or_lt_of_le (show j ≤ gs.length - 1 by omega) with h5 | h5
          · rw [h5] at hgt; omega
          · have := pw_getD g3 h5 (show gs.length - 1 < gs.length by omega); omega
        refine tM_best hn hs ho h0 mf l1 (fun b hb hgt hmin => absurd hgt (nogt b ((g4 b).mpr hb))) (fun hall => ⟨r2 (Or.inr q), fin⟩)
  simp only [jrs]
  rw [g2]
  refine ⟨fun q => hM _ (fun k hk e => ?_) (fun _ => rfl), fun q => ⟨fun q3 => ?_, fun q3 => hM _ (fun k hk e => ?_) (fun _ => rfl)⟩⟩
  · rw [e] at q; exact absurd q (nI_pos (by omega))
  · obtain ⟨k, hk, rfl⟩ := (nI_lt_iff (by omega)).mp ⟨q, q3⟩
    refine ⟨vp_in_nI (by omega) (by omega), hM _ (fun j hj e => ?_) (fun hx => ?_)⟩
    · have : k = j := (nI_eq (by omega) (by omega)).mp e
      subst this
      rw [clamp (by omega), g1 k hk]
    · rcases hx with hx | hx
      · exact absurd hx q
      · exact absurd q3 hx
  · rw [e] at q3; exact absurd (nI_lt hk (by omega)) q3
