/-! ===== width, group, column ===== -/
/-- what full-net laws have of both sides -/
theorem XF.on {n : Nat} {a : Nat → Nat → Nat} {od pl : Nat → Nat} {I : jM} (h : XF n a od pl I) (h9 : I 0 9 = 1) : Held I 58 (FL n a od) ∧ I 55 7 = nI (FL n a od).length ∧ I 55 9 = nI (wide n a od n) ∧ (∀ i, i < n → I 59 (od i) = mk (Gi n a od i (od i)))
    ∧ (∀ i, i < n → (par n a od i < n → I 60 (od i) = nI (od (par n a od i)) ∧ I 61 (od i) = I 61 (od (par n a od i)) + 1) ∧ (¬ par n a od i < n → I 60 (od i) = -9 ∧ I 61 (od i) = 0))
    ∧ (∀ i, i < n → I 62 (od i) = mk (fun u => decide (u < n) && decide (par n a od (pl u) = i)))
    ∧ ∃ gs : List Nat, Held I 63 gs ∧ I 55 8 = nI gs.length ∧ gs.Pairwise (· < ·) ∧ ∀ m, m ∈ gs ↔ ∃ i, i < n ∧ m = mkN (cl n a od i) 24 ∧ noin n a od i := by
  rcases h with q | q
  · rw [h9] at q; exact absurd q (by decide)
  · exact q.2
section COL
variable {n p : Nat} {a : Nat → Nat → Nat} {od pl : Nat → Nat} {I : jM}
theorem MFN.bh (m : MFN n a od n I) (ho : Perm n od pl) {u : Nat} (hu : u < n) : I 107 u = mk (Gi n a od (pl u) u) := by
  have := m.2.2.1 (pl u) (ho u hu).2.2.1
  rw [(ho u hu).2.2.2] at this; exact this
theorem MFN.plc (m : MFN n a od n I) (ho : Perm n od pl) {u : Nat} (hu : u < n) : I 109 u = nI (pl u) := by
  have := m.2.2.2 (pl u) (ho u hu).2.2.1
  rw [(ho u hu).2.2.2] at this; exact this
theorem wide_spec (n : Nat) (a : Nat → Nat → Nat) (od : Nat → Nat) : ∀ k, (∀ i, i < k → ct (Gi n a od i (od i)) ≤ wide n a od k) ∧ (wide n a od k = 0 ∨ ∃ i, i < k ∧ ct (Gi n a od i (od i)) = wide n a od k)
  | 0 => ⟨fun i hi => absurd hi (Nat.not_lt_zero i), Or.inl rfl⟩
  | k + 1 => by
    obtain ⟨h1, h2⟩ := wide_spec n a od k
    have e : wide n a od (k + 1) = max (wide n a od k) (ct (Gi n a od k (od k))) := rfl
    rw [e]
    refine ⟨fun i hi => ?_, ?_⟩
    · by_cases ei : i = k
      · subst ei; omega
      · have := h1 i (by omega); omega
    · rcases Nat.lt_or_ge (wide n a od k) (ct (Gi n a od k (od k))) with h | h
      · exact Or.inr ⟨k, by omega, by omega⟩
      · rw [show max (wide n a od k) (ct (Gi n a od k (od k))) = wide n a od k by omega]
        rcases h2 with h2 | ⟨i, hi, h2⟩
        · exact Or.inl h2
        · exact Or.inr ⟨i, by omega, h2⟩
theorem tM_width (hn : n ≤ 24) (ho : Perm n od pl) (h0 : I 100 0 = nI n) (m : MFN n a od n I) {K : Int32 → jM → Prop} (hK : K (nI (wide n a od n)) I) : MD_width_8 100 0 0 I K := by
  obtain ⟨w1, w2⟩ := wide_spec n a od n
  unfold MD_width_8
  refine lp_n2 n (fun k x y => y = nI k ∧ ∃ r, x = nI r ∧ r ≤ 24 ∧ (∀ u, u < k → ct (Gi n a od (pl u) u) ≤ r) ∧ (r = 0 ∨ ∃ u, u < k ∧ ct (Gi n a od (pl u) u) = r)) ?_ ?_ (Nat.zero_le _) ⟨rfl, 0, rfl, by omega, fun u hu => absurd hu (Nat.not_lt_zero u), Or.inl rfl⟩
  · rintro k x y X hk ⟨rfl, r, rfl, hr, r1, r2⟩ go
    unfold MD_width_8b
    dsimp only
    simp only [jrs]
    rw [h0, clamp (by omega), m.bh ho hk]
    have hv : vp_in (nI k) 24 := vp_in_nI (by omega) (by omega)
    have hc := ct_le (Gi n a od (pl k) k)
    refine ⟨fun q => absurd q (ge_no hk (by omega)), fun _ => ⟨hv, t_ones _ _ _ ⟨fun q => go _ _ ⟨nI_1 k, r, rfl, hr, fun u hu => ?_, ?_⟩, fun q => ⟨hv, t_ones _ _ _ (go _ _ ⟨nI_1 k, _, rfl, hc, fun u hu => ?_, Or.inr ⟨k, by omega, rfl⟩⟩)⟩⟩⟩⟩
    · by_cases e : u = k
      · subst e; exact (nI_leI (by omega) (by omega)).mp q
      · exact r1 u (by omega)
    · rcases r2 with r2 | ⟨u, hu, r2⟩
      · exact Or.inl r2
      · exact Or.inr ⟨u, by omega, r2⟩
    · have q' : ¬ ct (Gi n a od (pl k) k) ≤ r := fun e => q ((nI_leI (by omega) (by omega)).mpr e)
      by_cases e : u = k
      · subst e; omega
      · have := r1 u (by omega); omega
  · rintro x y X ⟨rfl, r, rfl, hr, r1, r2⟩
    unfold MD_width_8b
    dsimp only
    rw [h0]
    refine ⟨fun _ => ?_, fun q => absurd (nI_le (Nat.le_refl n) (by omega)) q⟩
    have e : r = wide n a od n := by
      apply Nat.le_antisymm
      · rcases r2 with r2 | ⟨u, hu, r2⟩
        · omega
        · have := w1 (pl u) (ho u hu).2.2.1
          rw [(ho u hu).2.2.2] at this; omega
      · rcases w2 with w2 | ⟨i, hi, w2⟩
        · omega
        · have := r1 (od i) (ho i hi).1
          rw [(ho i hi).2.1] at this; omega
    rw [e]; exact hK
theorem tM_parent (hn : n ≤ 24) (hs : ∀ u w, u < n → w < n → a u w < p ∧ a u w = a w u) (ho : Perm n od pl) (h0 : I 100 0 = nI n) (m : MFN n a od n I) {u : Nat} (hu : u < n) {K : Int32 → Prop} (h1 : ∀ j, j < n → par n a od (pl u) = j → K (nI (od j))) (h2 : ¬ par n a od (pl u) < n → K (-9)) : MD_parent 100 (nI u) I K := by
  unfold MD_parent MD_parent_5
  have eu : od (pl u) = u := (ho u hu).2.2.2
  refine lp_n2 n (fun k x y => y = nI k ∧ ((x = -9 ∧ ∀ w, w < k → Gi n a od (pl u) u w = false) ∨ ∃ b, b < k ∧ x = nI b ∧ Gi n a od (pl u) u b = true ∧ ∀ w, w < k → Gi n a od (pl u) u w = true → pl b ≤ pl w)) ?_ ?_ (Nat.zero_le _) ⟨rfl, Or.inl ⟨rfl, fun w hw => absurd hw (Nat.not_lt_zero w)⟩⟩
  · rintro k x y X hk ⟨rfl, hx⟩ go
    unfold MD_parent_5b
    dsimp only
    simp only [jrs]
    rw [h0, clamp (by omega), m.bh ho hu, mk_tst1 _ (by omega)]
    refine ⟨fun q => absurd q (ge_no hk (by omega)), fun _ => ⟨vp_in_nI (by omega) (by omega), fun q => go _ _ ⟨nI_1 k, ?_⟩, fun q => ⟨fun q2 => go _ _ ⟨nI_1 k, Or.inr ⟨k, by omega, rfl, q, fun w hw hw2 => ?_⟩⟩, fun q2 => ?_⟩⟩⟩
    · have q' : Gi n a od (pl u) u k = false := by simpa using q
      rcases hx with ⟨e, hx⟩ | ⟨b, hb, e, b1, b2⟩
      · refine Or.inl ⟨e, fun w hw => ?_⟩
        by_cases ek : w = k
        · subst ek; exact q'
        · exact hx w (by omega)
      · refine Or.inr ⟨b, by omega, e, b1, fun w hw hw2 => ?_⟩
        by_cases ek : w = k
        · subst ek; rw [q'] at hw2; cases hw2
        · exact b2 w (by omega) hw2
    · by_cases ek : w = k
      · subst ek; omega
      · rcases hx with ⟨e, hx⟩ | ⟨b, hb, e, b1, b2⟩
        · rw [hx w (by omega)] at hw2; cases hw2
        · rw [e] at q2
          have := congrArg Int32.toInt q2
          rw [nI_toInt (by omega)] at this
          have h9 : (-9 : Int32).toInt = -9 := by decide
          omega
    · rcases hx with ⟨e, hx⟩ | ⟨b, hb, e, b1, b2⟩
      · exact absurd e q2
      · subst e
        have hpb := (ho b (by omega)).2.2.1
        have hpk := (ho k hk).2.2.1
        refine ⟨vp_in_nI (by omega) (by omega), vp_in_nI (by omega) (by omega), ?_⟩
        rw [clamp (by omega), clamp (by omega), m.plc ho (by omega), m.plc ho hk, nI_leI (by omega) (by omega)]
        refine ⟨fun q3 => go _ _ ⟨nI_1 k, Or.inr ⟨b, by omega, rfl, b1, fun w hw hw2 => ?_⟩⟩, fun q3 => go _ _ ⟨nI_1 k, Or.inr ⟨k, by omega, rfl, q, fun w hw hw2 => ?_⟩⟩⟩
        · by_cases ek : w = k
          · subst ek; exact q3
          · exact b2 w (by omega) hw2
        · by_cases ek : w = k
          · subst ek; omega
          · have := b2 w (by omega) hw2; omega
  · rintro x y X ⟨rfl, hx⟩
    unfold MD_parent_5b
    dsimp only
    rw [h0]
    refine ⟨fun _ => ?_, fun q => absurd (nI_le (Nat.le_refl n) (by omega)) q⟩
    rcases hx with ⟨e, hx⟩ | ⟨b, hb, e, b1, b2⟩
    · rw [e]
      apply h2
      have := fa_first_none (p := fun j => Gi n a od (pl u) (od (pl u)) (od j)) (n := n) (fun j hj => by rw [eu]; exact hx _ (ho j hj).1)
      show ¬ fa_first _ n < n
      omega
    · rw [e]
      have := fa_first_spec (p := fun j => Gi n a od (pl u) (od (pl u)) (od j)) (ho b hb).2.2.1 (by show Gi _ _ _ _ _ _ = true; rw [eu, (ho b hb).2.2.2]; exact b1) (fun j hj => by
        rw [eu]
        cases hh : Gi n a od (pl u) u (od j) with
        | false => rfl
        | true =>
          have hjn : j < n := by have := (ho b hb).2.2.1; omega
          have := b2 (od j) (ho j hjn).1 hh
          rw [(ho j hjn).2.1] at this; omega)
      have h5 := h1 (pl b) (ho b hb).2.2.1 this
      rw [(ho b hb).2.2.2] at h5; exact h5
/-- how far it is to the top of the tree, by places -/
def ht (n : Nat) (a : Nat → Nat → Nat) (od : Nat → Nat) : Nat → Nat → Nat
  | 0, _ => 0
  | f + 1, i => if par n a od i < n then ht n a od f (par n a od i) + 1 else 0
theorem par_lt (hs : ∀ u w, u < n → w < n → a u w < p ∧ a u w = a w u) (ho : Perm n od pl) {i : Nat} (hi : i < n) (h : par n a od i < n) : i < par n a od i := par_gt hs ho hi h (fa_first_yes (fun j => Gi n a od i (od i) (od j)) n h)
theorem ht_eq (hs : ∀ u w, u < n → w < n → a u w < p ∧ a u w = a w u) (ho : Perm n od pl) : ∀ f1 f2 i, i < n → n - i ≤ f1 → n - i ≤ f2 → ht n a od f1 i = ht n a od f2 i
  | 0, _, i, hi, h1, _ => by omega
  | _ + 1, 0, i, hi, _, h2 => by omega
  | f1 + 1, f2 + 1, i, hi, h1, h2 => by
    unfold ht
    by_cases h : par n a od i < n
    · rw [if_pos h, if_pos h]
      have := par_lt hs ho hi h
      rw [ht_eq hs ho f1 f2 (par n a od i) h (by omega) (by omega)]
    · rw [if_neg h, if_neg h]
def Ht (n : Nat) (a : Nat → Nat → Nat) (od : Nat → Nat) (i : Nat) : Nat := ht n a od n i
theorem Ht_step (hs : ∀ u w, u < n → w < n → a u w < p ∧ a u w = a w u) (ho : Perm n od pl) {i : Nat} (hi : i < n) : Ht n a od i = if par n a od i < n then Ht n a od (par n a od i) + 1 else 0 := by
  unfold Ht
  rw [ht_eq hs ho n (n + 1) i hi (by omega) (by omega)]
  rfl
theorem ht_le (n : Nat) (a : Nat → Nat → Nat) (od : Nat → Nat) : ∀ f i, ht n a od f i ≤ f
  | 0, _ => Nat.le_refl 0
  | f + 1, i => by
    unfold ht
    have := ht_le n a od f (par n a od i)
    split <;> omega
theorem XF_ht (hs : ∀ u w, u < n → w < n → a u w < p ∧ a u w = a w u) (ho : Perm n od pl) (h : ∀ i, i < n → (par n a od i < n → I 60 (od i) = nI (od (par n a od i)) ∧ I 61 (od i) = I 61 (od (par n a od i)) + 1) ∧ (¬ par n a od i < n → I 60 (od i) = -9 ∧ I 61 (od i) = 0)) : ∀ d i, i < n → n - i ≤ d → I 61 (od i) = nI (Ht n a od i)
  | 0, i, hi, hd => by omega
  | d + 1, i, hi, hd => by
    rw [Ht_step hs ho hi]
    obtain ⟨h1, h2⟩ := h i hi
    by_cases hp : par n a od i < n
    · rw [if_pos hp, (h1 hp).2]
      have := par_lt hs ho hi hp
      rw [XF_ht hs ho h d (par n a od i) hp (by omega)]
      exact nI_1 _
    · rw [if_neg hp, (h2 hp).2]; rfl
theorem tM_height (hn : n ≤ 24) (hs : ∀ u w, u < n → w < n → a u w < p ∧ a u w = a w u) (ho : Perm n od pl) (h0 : I 100 0 = nI n) (m : MFN n a od n I) {u : Nat} (hu : u < n) {K : Int32 → Prop} (hK : K (nI (Ht n a od (pl u)))) : MD_height 100 (nI u) I K := by
  have m9 : ∀ j : Nat, j < 24 → ¬ nI j = -9 := fun j hj q => by
    have := congrArg Int32.toInt q
    rw [nI_toInt (by omega)] at this
    have h9 : (-9 : Int32).toInt = -9 := by decide
    omega
  unfold MD_height
  have hstep := Ht_step hs ho (ho u hu).2.2.1
  have loop : ∀ (j c : Nat), j < n → Ht n a od (pl u) = c + 1 + Ht n a od j → MD_height_8 100 (nI c) (nI (od j)) I K := by
    intro j c hj hc
    unfold MD_height_8
    intro X hX
    have key : ∀ d j c, n - j ≤ d → j < n → Ht n a od (pl u) = c + 1 + Ht n a od j → X (nI c, nI (od j)) := by
      intro d
      induction d with
      | zero => intro j c h1 h2; omega
      | succ d ih =>
        intro j c h1 h2 h3
        apply hX
        have h4 := Ht_step hs ho h2
        unfold MD_height_8b
        dsimp only
        obtain ⟨o1, o2, o3, o4⟩ := ho j h2
        refine ⟨fun q => absurd q (m9 _ (by omega)), fun _ => tM_parent hn hs ho h0 m o1 (fun k hk e => ?_) (fun e => ?_)⟩
        · rw [o2] at e
          rw [nI_1]
          have hp := par_lt hs ho h2 (by omega)
          rw [if_pos (by omega), e] at h4
          exact ih k (c + 1) (by omega) hk (by omega)
        · rw [o2] at e
          rw [if_neg e] at h4
          rw [nI_1]
          apply hX
          unfold MD_height_8b
          dsimp only
          refine ⟨fun _ => ?_, fun q => absurd rfl q⟩
          rw [show c + 1 = Ht n a od (pl u) by omega]; exact hK
    exact key _ j c (Nat.le_refl _) hj hc
  refine tM_parent hn hs ho h0 m hu (fun j hj e => ?_) (fun e => ?_)
  · rw [if_pos (by omega), e] at hstep
    exact loop j 0 hj (by omega)
  · rw [if_neg e] at hstep
    unfold MD_height_8
    intro X hX
    apply hX
    unfold MD_height_8b
    dsimp only
    refine ⟨fun _ => ?_, fun q => absurd rfl q⟩
    rw [hstep] at hK; exact hK
theorem ct_n (hn : n ≤ 24) (f : Nat → Bool) : ct (fun w => decide (w < n) && f w) = fb_ct f n := by
  unfold ct
  rw [show (24 : Nat) = n + (24 - n) by omega, fb_ct_split]
  have h1 : fb_ct (fun k => decide (n + k < n) && f (n + k)) (24 - n) = 0 := fb_ct_zero.mpr (fun k _ => by rw [decide_eq_false (by omega)]; rfl)
  have h2 : fb_ct (fun w => decide (w < n) && f w) n = fb_ct f n := fb_ct_cong (fun k hk => by rw [decide_eq_true hk]; simp)
  omega
end COL
/-- width() -/
theorem law_width {IX IM : jM} (h : RR IX IM) (a1 a2 a3 : Int32) : lawN_10 RR IX IM a1 a2 a3 := by
  obtain ⟨n, p, a, hd, od, pl, sd, gn, wd, hok, xt, xr, xf, xl, xg, xw, mt, mr, mg, mw, ml, hc⟩ := id h
  have hn := hok.2.1
  have hs := hok.2.2.2.2.1
  have ho : Perm n od pl := hok.2.2.2.2.2.1
  unfold lawN_10 OO_width
  refine t_fullNet hn hs ho xt xr xf (fun JX eX eX0 x9 xf2 => ⟨j55.1, j55.2, ?_⟩)
  unfold MD_width
  refine tM_goThrough hn hs (okp hok) ho mt mr (fun JM eM eM0 mf => ?_)
  refine tM_width hn ho (by rw [eM0 0 (by omega)]; exact mt.1) mf ⟨(xf2.on x9).2.2.1, rr_full hok xt xr xl xg xw mt mr mg mw ml hc (fun x h1 h2 _ _ => eX x h1 h2) (eX0 10 (by omega)) xf2 (fun x h1 h2 _ _ => eM x h1 h2) eM0⟩
/-- column(u, what) -/
theorem law_column {IX IM : jM} (h : RR IX IM) (a1 a2 a3 : Int32) : lawN_9 RR IX IM a1 a2 a3 := by
  obtain ⟨n, p, a, hd, od, pl, sd, gn, wd, hok, xt, xr, xf, xl, xg, xw, mt, mr, mg, mw, ml, hc⟩ := id h
  have hn1 := hok.1
  have hn := hok.2.1
  have hs := hok.2.2.2.2.1
  have ho : Perm n od pl := hok.2.2.2.2.2.1
  unfold lawN_9 OO_column
  rcases who a1 hn with ⟨u, hu, rfl⟩ | ⟨-, hx⟩
  · refine tX_isNobody_no hn xt.1 hu ⟨fun _ => ?_, fun q => absurd rfl q⟩
    refine t_fullNet hn hs ho xt xr xf (fun JX eX eX0 x9 xf2 => ⟨j55.1, j55.2, ?_⟩)
    obtain ⟨-, -, -, f4, f5, f6, -⟩ := xf2.on x9
    obtain ⟨u1, u2, u3, u4⟩ := ho u hu
    have hM : ∀ (r : Int32), (a2 = 0 → r = nI (pl u)) → (a2 = 1 → r = nI (ct (Gi n a od (pl u) u))) → (a2 = 2 → (∀ j, j < n → par n a od (pl u) = j → r = nI (od j)) ∧ (¬ par n a od (pl u) < n → r = -9)) → (a2 = 3 → r = mk (Gi n a od (pl u) u)) → (a2 = 4 → r = nI (Ht n a od (pl u))) → (a2 = 5 → r = nI (fb_ct (fun w => decide (par n a od (pl w) = pl u)) n)) → (¬ a2 = 0 → ¬ a2 = 1 → ¬ a2 = 2 → ¬ a2 = 3 → ¬ a2 = 4 → ¬ a2 = 5 → r = -9) → MD_column 100 (nI u) a2 IM (fun rm IM3 => r = rm ∧ RR JX IM3) := by
      intro r r0 r1 r2 r3 r4 r5 r6
      unfold MD_column
      refine tM_isUnknown_yes hn mt.1 hu ⟨fun _ => ?_, fun q => absurd q (by decide)⟩
      refine tM_goThrough hn hs (okp hok) ho mt mr (fun JM eM eM0 mf => ?_)
      have fin : RR JX JM := rr_full hok xt xr xl xg xw mt mr mg mw ml hc (fun x h1 h2 _ _ => eX x h1 h2) (eX0 10 (by omega)) xf2 (fun x h1 h2 _ _ => eM x h1 h2) eM0
      have h0 : JM 100 0 = nI n := by rw [eM0 0 (by omega)]; exact mt.1
      unfold MD_column_23
      refine lp_n2 n (fun k x y => y = nI k ∧ x = nI (fb_ct (fun w => decide (par n a od (pl w) = pl u)) k)) ?_ ?_ (Nat.zero_le _) ⟨rfl, rfl⟩
      · rintro k x y X hk ⟨rfl, rfl⟩ go
        unfold MD_column_23b
        dsimp only
        rw [h0]
        refine ⟨fun q => absurd q (ge_no hk (by omega)), fun _ => tM_parent hn hs ho h0 mf hk (fun j hj e => ?_) (fun e => ?_)⟩
        · rw [nI_eq (by have := (ho j hj).1; omega) (by omega)]
          refine ⟨fun q v ev => go _ _ ⟨nI_1 k, ?_⟩, fun q v ev => go _ _ ⟨nI_1 k, ?_⟩⟩
          · rw [ev, Int32.add_zero, fb_ct_succ, e, decide_eq_false (fun ee => q (by rw [ee]; exact u4))]; rfl
          · rw [ev, fb_ct_succ, e, decide_eq_true (by rw [← q]; exact (ho j hj).2.1.symm)]; exact nI_1 _
        · refine ⟨fun q v ev => go _ _ ⟨nI_1 k, ?_⟩, fun q => ?_⟩
          · rw [ev, Int32.add_zero, fb_ct_succ, decide_eq_false (by omega)]; rfl
          · have := congrArg Int32.toInt q
            rw [nI_toInt (by omega)] at this
            have h9 : (-9 : Int32).toInt = -9 := by decide
            omega
      · rintro x y X ⟨rfl, rfl⟩
        unfold MD_column_23b
        dsimp only
        simp only [jrs]
        rw [h0, clamp (by omega), mf.plc ho hu, mf.bh ho hu]
        have hv : vp_in (nI u) 24 := vp_in_nI (by omega) (by omega)
        refine ⟨fun _ => ⟨fun q => ⟨hv, r0 q, fin⟩, fun q => ⟨hv, t_ones _ _ _ ⟨r1 q, fin⟩⟩, fun q => tM_parent hn hs ho h0 mf hu (fun j hj e => ⟨(r2 q).1 j hj e, fin⟩) (fun e => ⟨(r2 q).2 e, fin⟩), fun q => ⟨hv, r3 q, fin⟩, fun q => tM_height hn hs ho h0 mf hu ⟨r4 q, fin⟩, fun q0 q1 q2 q3 q4 => ⟨fun q5 => ⟨r6 q0 q1 q2 q3 q4 q5, fin⟩, fun q5 => ⟨r5 q5, fin⟩⟩⟩, fun q => absurd (nI_le (Nat.le_refl n) (by omega)) q⟩
    have dis : ∀ {i j : Int32} {P : Prop}, i ≠ j → a2 = i → a2 = j → P := fun hij e1 e2 => absurd (e1.symm.trans e2) hij
    have e59 : JX 59 u = mk (Gi n a od (pl u) u) := by have := f4 (pl u) u3; rw [u4] at this; exact this
    have e61 : JX 61 u = nI (Ht n a od (pl u)) := by have := XF_ht hs ho f5 n (pl u) u3 (by omega); rw [u4] at this; exact this
    have e62 : JX 62 u = mk (fun w => decide (w < n) && decide (par n a od (pl w) = pl u)) := by have := f6 (pl u) u3; rw [u4] at this; exact this
    have e60 : (par n a od (pl u) < n → JX 60 u = nI (od (par n a od (pl u)))) ∧ (¬ par n a od (pl u) < n → JX 60 u = -9) := by
      have := f5 (pl u) u3
      rw [u4] at this
      exact ⟨fun q => (this.1 q).1, fun q => (this.2 q).1⟩
    have hv : vp_in (nI u) 24 := vp_in_nI (by omega) (by omega)
    simp only [jrs]
    rw [clamp (by omega), eX 32 (by omega) (by omega), (xr.2 u hu).2, e59, e61, e62]
    refine ⟨fun q => ⟨hv, hM _ (fun _ => rfl) (dis (by decide) q) (dis (by decide) q) (dis (by decide) q) (dis (by decide) q) (dis (by decide) q) (fun z => absurd q z)⟩, fun q => ⟨hv, t_bitCount _ _ _ (hM _ (dis (by decide) q) (fun _ => rfl) (dis (by decide) q) (dis (by decide) q) (dis (by decide) q) (dis (by decide) q) (fun _ z => absurd q z))⟩, fun q => ⟨hv, hM _ (dis (by decide) q) (dis (by decide) q) (fun _ => ⟨fun j hj e => ?_, fun e => e60.2 e⟩) (dis (by decide) q) (dis (by decide) q) (dis (by decide) q) (fun _ _ z => absurd q z)⟩, fun q => ⟨hv, hM _ (dis (by decide) q) (dis (by decide) q) (dis (by decide) q) (fun _ => rfl) (dis (by decide) q) (dis (by decide) q) (fun _ _ _ z => absurd q z)⟩, fun q => ⟨hv, hM _ (dis (by decide) q) (dis (by decide) q) (dis (by decide) q) (dis (by decide) q) (fun _ => rfl) (dis (by decide) q) (fun _ _ _ _ z => absurd q z)⟩, fun q => ⟨hv, t_bitCount _ _ _ (hM _ (dis (by decide) q) (dis (by decide) q) (dis (by decide) q) (dis (by decide) q) (dis (by decide) q) (fun _ => by rw [ct_n hn]) (fun _ _ _ _ _ z => absurd q z))⟩, fun q0 q1 q2 q3 q4 q5 => hM _ (fun z => absurd z q0) (fun z => absurd z q1) (fun z => absurd z q2) (fun z => absurd z q3) (fun z => absurd z q4) (fun z => absurd z q5) (fun _ _ _ _ _ _ => rfl)⟩
    rw [e60.1 (by omega), e]
  · refine tX_isNobody_yes xt.1 hx ⟨fun q => absurd q (by decide), fun _ => tX_refuse (k := 1) (by omega) (by omega) m1_eq ?_⟩
    unfold MD_column
    exact tM_isUnknown_no hn1 hn mt.1 hx ⟨fun q => absurd rfl q, fun _ => tM_refuse (k := 1) (by omega) (by omega) m1_eq ⟨rfl, h.refuse 1 (by omega) (by omega)⟩⟩
