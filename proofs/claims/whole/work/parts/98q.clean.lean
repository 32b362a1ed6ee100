/-! ===== isClean ===== -/
section CLN
variable {n p : Nat} {a : Nat → Nat → Nat} {hd : Nat → Bool} {od pl sd : Nat → Nat} {I : jM} {g : Gr} {lv : Nat → Bool}
theorem smp_sum {L : Nat → Bool} {u : Nat} (hG : GG n lv g) (hn : n ≤ 24) : (fb_sm (fun w => if (g u w && L w) then ct (fun y => (g u y && L y) && !g w y && !decide (y = w)) else 0) 24 / 2 = 0) ↔ Smp g L u := by
  constructor
  · intro h p q hp hq hup huq hpq
    cases hg : g p q with
    | true => rfl
    | false =>
      exfalso
      have hqp : g q p = false := by rw [hG.symm]; exact hg
      have pn := (hG u p hup).2.1
      have qn := (hG u q huq).2.1
      have one : ∀ x y, x < n → y < n → g u x = true → g u y = true → L x = true → L y = true → x ≠ y → g x y = false → 1 ≤ (if (g u x && L x) then ct (fun y => (g u y && L y) && !g x y && !decide (y = x)) else 0) := fun x y hx hy h1 h2 h3 h4 h5 h6 => by
        rw [h1, h3]
        simp only [Bool.and_self, if_true]
        have : 0 < fb_ct (fun y => (g u y && L y) && !g x y && !decide (y = x)) 24 := fb_ct_pos.mpr ⟨y, by omega, by simp [h2, h4, h6]; exact fun e => h5 e.symm⟩
        exact this
      have o1 := one p q pn qn hup huq hp hq hpq hg
      have o2 := one q p qn pn huq hup hq hp (fun e => hpq e.symm) hqp
      rcases Nat.lt_or_ge p q with hlt | hge
      · have a1 := fb_sm_part (fun w => if (g u w && L w) then ct (fun y => (g u y && L y) && !g w y && !decide (y = w)) else 0) hlt
        have a2 := fb_sm_part (fun w => if (g u w && L w) then ct (fun y => (g u y && L y) && !g w y && !decide (y = w)) else 0) (show q < 24 by omega)
        omega
      · have a1 := fb_sm_part (fun w => if (g u w && L w) then ct (fun y => (g u y && L y) && !g w y && !decide (y = w)) else 0) (show q < p by omega)
        have a2 := fb_sm_part (fun w => if (g u w && L w) then ct (fun y => (g u y && L y) && !g w y && !decide (y = w)) else 0) (show p < 24 by omega)
        omega
  · intro h
    have hz : fb_sm (fun w => if (g u w && L w) then ct (fun y => (g u y && L y) && !g w y && !decide (y = w)) else 0) 24 ≤ 24 * 0 := fb_sm_bound (fun w _ => by
      by_cases hw : (g u w && L w) = true
      · rw [if_pos hw]
        rw [Bool.and_eq_true] at hw
        have : ct (fun y => (g u y && L y) && !g w y && !decide (y = w)) = 0 := fb_ct_zero.mpr (fun y _ => by
          by_cases hy : (g u y && L y) = true
          · by_cases e : y = w
            · simp [e]
            · rw [Bool.and_eq_true] at hy
              have := h w y hw.2 hy.2 hw.1 hy.1 (fun e2 => e e2.symm)
              simp [this]
          · simp only [Bool.not_eq_true] at hy
            rw [hy]; rfl)
        omega
      · rw [if_neg hw]; exact Nat.zero_le _)
    omega
theorem tM_isClean (hn : n ≤ 24) (hG : GG n lv g) (h0 : I 100 0 = nI n) (h6 : ∀ u, u < n → I 106 u = mk (g u)) {K : Int32 → jM → Prop} (hyes : NCL g (fun z => decide (z < n)) → K 1 I) (hno : ¬ NCL g (fun z => decide (z < n)) → K 0 I) : MD_isClean_15 100 (mk (fun z => decide (z < n))) 1 I K := by
  have hsy := hG.symm
  have hir := hG.irr
  unfold MD_isClean_15
  intro X hX
  obtain ⟨N0, hN0⟩ : ∃ P : Prop, P = NCL g (fun z => decide (z < n)) := ⟨_, rfl⟩
  rw [← hN0] at hyes hno
  have exit0 : ∀ L : Nat → Bool, (∀ z, L z = true → z < n) → (NCL g L ↔ N0) → (∀ u, L u = true → ¬ Smp g L u) → X (mk L, 0) := by
    intro L hL hiff hns
    apply hX
    unfold MD_isClean_15b
    dsimp only
    refine ⟨fun _ => ⟨fun q => hno (fun hc => ?_), fun q => hyes (hiff.mp ?_)⟩, fun q => absurd rfl q⟩
    · have hne : ∃ u, L u = true := by
        apply Classical.byContradiction
        intro hx
        apply q
        rw [mk_zero]
        intro i _
        cases h : L i with
        | false => rfl
        | true => exact absurd ⟨i, h⟩ hx
      obtain ⟨u, h1, h2⟩ := smp_ex hsy hir hL (hiff.mpr hc) hne
      exact hns u h1 h2
    · intro v x y hv
      have := mk_zero.mp q v (by have := hL v hv; omega)
      rw [hv] at this; cases this
  have key : ∀ (F : Nat) (L : Nat → Bool), fb_ct L n ≤ F → (∀ z, L z = true → z < n) → (NCL g L ↔ N0) → X (mk L, 1) := by
    intro F
    induction F with
    | zero =>
      intro L hF hL hiff
      apply hX
      unfold MD_isClean_15b
      dsimp only
      refine ⟨fun q => absurd q (by decide), fun _ => ?_⟩
      have hemp : ∀ z, L z = false := fun z => by
        cases h : L z with
        | false => rfl
        | true =>
          have := fb_ct_pos.mpr ⟨z, hL z h, h⟩
          omega
      unfold MD_isClean_23
      refine lp_n3 n (fun k l m v => v = nI k ∧ l = mk L ∧ m = 0) ?_ ?_ (Nat.zero_le n) ⟨rfl, rfl, rfl⟩
      · rintro k l m v X2 hk ⟨rfl, rfl, rfl⟩ go
        unfold MD_isClean_23b
        dsimp only
        rw [h0, mk_tst1 _ (by omega), hemp k]
        exact ⟨fun q => absurd q (ge_no hk (by omega)), fun _ => ⟨fun _ => go _ _ _ ⟨nI_1 k, rfl, rfl⟩, fun q => absurd q (by decide)⟩⟩
      · rintro l m v X2 ⟨rfl, rfl, rfl⟩
        unfold MD_isClean_23b
        dsimp only
        rw [h0]
        exact ⟨fun _ => exit0 L hL hiff (fun u hu => by rw [hemp u] at hu; cases hu), fun q => absurd (nI_le (Nat.le_refl n) (by omega)) q⟩
    | succ F ih =>
      intro L hF hL hiff
      apply hX
      unfold MD_isClean_15b
      dsimp only
      refine ⟨fun q => absurd q (by decide), fun _ => ?_⟩
      unfold MD_isClean_23
      refine lp_n3 n (fun k l m v => v = nI k ∧ ∃ L' : Nat → Bool, l = mk L' ∧ (∀ z, L' z = true → z < n) ∧ (NCL g L' ↔ N0) ∧ ((m = 0 ∧ L' = L ∧ ∀ u, u < k → L u = true → ¬ Smp g L u) ∨ (m = 1 ∧ fb_ct L' n < fb_ct L n))) ?_ ?_ (Nat.zero_le n) ⟨rfl, L, rfl, hL, hiff, Or.inl ⟨rfl, rfl, fun u h => absurd h (Nat.not_lt_zero u)⟩⟩
      · rintro k l m v X2 hk ⟨rfl, L', rfl, hL', hiff', hm⟩ go
        unfold MD_isClean_23b
        dsimp only
        simp only [jrs]
        rw [h0, mk_tst1 _ (by omega), clamp (show k < 2 ^ 31 by omega), h6 k hk, mk_and]
        refine ⟨fun q => absurd q (ge_no hk (by omega)), fun _ => ⟨fun q => go _ _ _ ⟨nI_1 k, L', rfl, hL', hiff', ?_⟩, fun q => ⟨vp_in_nI (by omega) (by omega), tM_fillsOf (c := 106) (rw1 := g) (nb := fun i => g k i && L' i) (by decide +kernel) (fun w _ hw => h6 w (by
          rw [Bool.and_eq_true] at hw
          exact hL' w hw.2)) ?_⟩⟩⟩
        · rcases hm with ⟨h1, h2, h3⟩ | h1
          · refine Or.inl ⟨h1, h2, fun u hu hLu => ?_⟩
            by_cases e : u = k
            · rw [← h2, e] at hLu; exact absurd hLu q
            · exact h3 u (by omega) hLu
          · exact Or.inr h1
        · have hbd : fb_sm (fun w => if (g k w && L' w) then ct (fun y => (g k y && L' y) && !g w y && !decide (y = w)) else 0) 24 ≤ 24 * 24 := fb_sm_bound (fun w _ => by
            split
            · exact ct_le _
            · exact Nat.zero_le _)
          have hsm := smp_sum (L := L') (u := k) hG hn
          refine ⟨fun q2 => go _ _ _ ⟨nI_1 k, L', rfl, hL', hiff', ?_⟩, fun q2 v1 e1 => ?_⟩
          · rcases hm with ⟨h1, h2, h3⟩ | h1
            · refine Or.inl ⟨h1, h2, fun u hu hLu => ?_⟩
              by_cases e : u = k
              · rw [e, ← h2]
                intro hs
                apply q2
                rw [hsm.mpr hs]; rfl
              · exact h3 u (by omega) hLu
            · exact Or.inr h1
          · have hs : Smp g L' k := hsm.mp ((nI_eq (by omega) (by omega)).mp q2)
            rw [mk_one (by omega), mk_diff] at e1
            have hlt : fb_ct (fun z => L' z && !decide (z = k)) n < fb_ct L' n := ct_less hk (fun j _ hj => by
              rw [Bool.and_eq_true] at hj
              exact hj.1) (by simp) q
            refine go _ _ _ ⟨nI_1 k, (fun z => L' z && !decide (z = k)), e1, fun z hz => ?_, ?_, Or.inr ⟨rfl, ?_⟩⟩
            · rw [Bool.and_eq_true] at hz
              exact hL' z hz.1
            · rw [← ncl_off hsy hir q hs]; exact hiff'
            · rcases hm with ⟨-, h2, -⟩ | ⟨-, h1⟩
              · rw [h2] at hlt ⊢; exact hlt
              · omega
      · rintro l m v X2 ⟨rfl, L', rfl, hL', hiff', hm⟩
        unfold MD_isClean_23b
        dsimp only
        rw [h0]
        refine ⟨fun _ => ?_, fun q => absurd (nI_le (Nat.le_refl n) (by omega)) q⟩
        rcases hm with ⟨h1, h2, h3⟩ | ⟨h1, h2⟩
        · rw [h1, h2]
          exact exit0 L hL hiff (fun u hu => h3 u (hL u hu) hu)
        · rw [h1]
          exact ih L' (by omega) hL' hiff'
  exact key (fb_ct (fun z => decide (z < n)) n) _ (Nat.le_refl _) (fun z hz => of_decide_eq_true hz) (by rw [hN0])
end CLN
theorem ncl_ring {n : Nat} {lv : Nat → Bool} {g : Gr} (hG : GG n lv g) : NCL g (fun z => decide (z < n)) ↔ ∀ k, 1 ≤ k → ¬ ∃ v, v < n ∧ ∃ x, x < n ∧ RX n g v x k := by
  constructor
  · rintro h k hk ⟨v, hv, x, hx, h1, y, h2, h3, h4, h5⟩
    obtain ⟨j, rfl⟩ : ∃ j, k = j + 1 := ⟨k - 1, by omega⟩
    exact h v x y (decide_eq_true hv) (decide_eq_true hx) (decide_eq_true (hG v y h2).2.1) h1 h2 h3 h4 (Wk.rs j y h5)
  · intro h v x y hv hx hy h1 h2 h3 h4 hr
    obtain ⟨k, hk⟩ := rs_wk hr
    exact h (k + 1) (by omega) ⟨v, of_decide_eq_true hv, x, of_decide_eq_true hx, h1, y, h2, h3, h4, hk⟩
/-- isClean() -/
theorem law_isClean {IX IM : jM} (h : RR IX IM) (a1 a2 a3 : Int32) : lawN_12 RR IX IM a1 a2 a3 := by
  obtain ⟨n, p, a, hd, od, pl, sd, gn, wd, hok, xt, xr, xf, xl, xg, xw, mt, mr, mg, mw, ml, hc⟩ := id h
  have hn := hok.2.1
  have hG := gg_adj hok.2.2.2.2.1
  unfold lawN_12 OO_isClean
  simp only [jrs]
  rw [xt.1]
  refine t_shortest hn hG xt.2.2.2.1 (fun r hr hp => ?_)
  have hz : r = 0 ↔ NCL (adj n a) (fun z => decide (z < n)) := by
    rw [ncl_ring hG]
    rcases hp with ⟨h1, h2⟩ | ⟨k, h1, h2, h3, -⟩
    · exact ⟨fun _ => h2, fun _ => h1⟩
    · exact ⟨fun e => absurd e (by omega), fun hh => absurd h3 (hh k h1)⟩
  have model : ∀ b : Int32, (NCL (adj n a) (fun z => decide (z < n)) → b = 1) → (¬ NCL (adj n a) (fun z => decide (z < n)) → b = 0) → MD_isClean 100 IM (fun rm IM3 => b = rm ∧ RR IX IM3) := fun b h1 h2 => by
    unfold MD_isClean
    refine tM_beginNet hn mt (fun JM eM e6 v1 e1 => ?_) (okp hok)
    rw [eM 100 (by omega), mt.1, mk_all n hn] at e1
    subst e1
    exact tM_isClean hn hG (by rw [eM 100 (by omega)]; exact mt.1) e6 (fun hh => ⟨h1 hh, h.scratch eM⟩) (fun hh => ⟨h2 hh, h.scratch eM⟩)
  refine ⟨fun q => model 0 (fun hh => ?_) (fun _ => rfl), fun q => model 1 (fun _ => rfl) (fun hh => ?_)⟩
  · exact absurd (by rw [hz.mpr hh]; rfl) q
  · exact absurd (hz.mp ((nI_eq (by omega) (by omega)).mp q)) hh
