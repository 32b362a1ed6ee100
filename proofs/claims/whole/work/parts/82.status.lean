/-! ===== status ===== -/
def dgF (f : Nat → Int32) : Nat → Int32
  | 0 => 0
  | k + 1 => 31 * dgF f k + f k
/-- how many are JOINED, twice -/
def prs (n : Nat) (a : Nat → Nat → Nat) (k : Nat) : Nat := fb_sm (fun u => ct (adj n a u)) k
theorem prs_le (n : Nat) (a : Nat → Nat → Nat) (k : Nat) : prs n a k ≤ k * 24 := fb_sm_bound (fun _ _ => ct_le _)
theorem t_pairs {I : jM} {n p : Nat} {a : Nat → Nat → Nat} {hd : Nat → Bool} {sd : Nat → Nat} (hn : n ≤ 24) (xt : XT n p a hd sd I) {K : Int32 → Prop} (hK : K (nI (prs n a n / 2))) : TA_pairs 1 I K := by
  unfold TA_pairs TA_pairs_4
  refine lp_n2 n (fun k x y => y = nI k ∧ x = nI (prs n a k)) ?_ ?_ (Nat.zero_le _) ⟨rfl, rfl⟩
  · rintro k x y X hk ⟨rfl, rfl⟩ go
    unfold TA_pairs_4b
    dsimp only
    simp only [jrs]
    rw [xt.1, clamp (by omega), xt.2.2.2.1 k hk]
    refine ⟨fun q => absurd q (ge_no hk (by omega)), fun _ => ⟨vp_in_nI (by omega) (by omega), t_bitCount _ _ _ (fun v ev => go _ _ ⟨nI_1 k, ?_⟩)⟩⟩
    rw [ev, nI_add]; rfl
  · rintro x y X ⟨rfl, rfl⟩
    unfold TA_pairs_4b
    dsimp only
    have := prs_le n a n
    rw [xt.1, show (2 : Int32) = nI 2 from rfl, pk_div (by omega) (by decide) (by decide)]
    exact ⟨fun _ => hK, fun q => absurd (nI_le (Nat.le_refl _) (by omega)) q⟩
theorem t_digest {I : jM} {n p : Nat} {a : Nat → Nat → Nat} {hd : Nat → Bool} {sd : Nat → Nat} (hn1 : 1 ≤ n) (hn : n ≤ 24) (xt : XT n p a hd sd I) {K : Int32 → Prop} (hK : K (dgF (fun k => nI (a (k / n) (k % n))) (n * n))) : TA_digest 1 I K := by
  unfold TA_digest TA_digest_4
  refine lp_n2 n (fun k x y => y = nI k ∧ x = dgF (fun k => nI (a (k / n) (k % n))) (k * n)) ?_ ?_ (Nat.zero_le _) ⟨rfl, by rw [Nat.zero_mul]; rfl⟩
  · rintro k x y X hk ⟨rfl, rfl⟩ go
    unfold TA_digest_4b TA_digest_14
    dsimp only
    rw [xt.1]
    refine ⟨fun q => absurd q (ge_no hk (by omega)), fun _ => ?_⟩
    refine lp_n2 n (fun m x y => y = nI m ∧ x = dgF (fun k => nI (a (k / n) (k % n))) (k * n + m)) ?_ ?_ (Nat.zero_le _) ⟨rfl, rfl⟩
    · rintro m x y X2 hm ⟨rfl, rfl⟩ go2
      unfold TA_digest_14b
      dsimp only
      simp only [jrs, jws3]
      rw [xt.1, clamp (by omega), clamp (by omega), xt.2.2.1 k m hk hm]
      refine ⟨fun q => absurd q (ge_no hm (by omega)), fun _ => ⟨vp_in_nI (by omega) (by omega), vp_in_nI (by omega) (by omega), fun v ev => go2 _ _ ⟨nI_1 m, ?_⟩⟩⟩
      rw [ev, ← Nat.add_assoc]
      show _ = 31 * dgF _ (k * n + m) + nI (a ((k * n + m) / n) ((k * n + m) % n))
      have e1 : (k * n + m) / n = k := by rw [Nat.mul_comm, Nat.mul_add_div (by omega), Nat.div_eq_of_lt hm, Nat.add_zero]
      have e2 : (k * n + m) % n = m := by rw [Nat.mul_comm, Nat.mul_add_mod, Nat.mod_eq_of_lt hm]
      rw [e1, e2]
    · rintro x y X2 ⟨rfl, rfl⟩
      unfold TA_digest_14b
      dsimp only
      rw [xt.1]
      refine ⟨fun _ => go _ _ ⟨nI_1 k, by rw [Nat.succ_mul]⟩, fun q => absurd (nI_le (Nat.le_refl _) (by omega)) q⟩
  · rintro x y X ⟨rfl, rfl⟩
    unfold TA_digest_4b
    dsimp only
    rw [xt.1]
    exact ⟨fun _ => hK, fun q => absurd (nI_le (Nat.le_refl _) (by omega)) q⟩
/-- the reference's scratch net has changed alone -/
theorem RR.scratch {IX IM JM : jM} (h : RR IX IM) (e : ∀ x, x ≠ 106 → JM x = IM x) : RR IX JM := by
  obtain ⟨n, p, a, hd, od, pl, sd, gn, wd, hok, xt, xr, xf, xl, xg, xw, mt, mr, mg, mw, ml, hc⟩ := h
  exact ⟨n, p, a, hd, od, pl, sd, gn, wd, hok, xt, xr, xf, xl, xg, xw, mt.fr (by rw [e 100 (by omega)]) (by rw [e 100 (by omega)]) (e _ (by omega)) (e _ (by omega)) (e _ (by omega)), mr.fr (e _ (by omega)), mg.fr (by rw [e 100 (by omega)]) (e _ (by omega)) (e _ (by omega)) (e _ (by omega)), mw.fr (by rw [e 100 (by omega)]) (by rw [e 100 (by omega)]) (e _ (by omega)) (e _ (by omega)), ml.fr (by rw [e 100 (by omega)]) (e _ (by omega)), fun k h1 h6 => by rw [e 105 (by omega)]; exact hc k h1 h6⟩
/-- status(what) -/
theorem law_status {IX IM : jM} (h : RR IX IM) (a1 a2 a3 : Int32) : lawN_28 RR IX IM a1 a2 a3 := by
  obtain ⟨n, p, a, hd, od, pl, sd, gn, wd, hok, xt, xr, xf, xl, xg, xw, mt, mr, mg, mw, ml, hc⟩ := id h
  have hn := hok.2.1
  have hn1 := hok.1
  have ho := hok.2.2.2.2.2.1
  have l10 : ∀ j : Nat, j ≤ 10 → nI j ≤ 10 := fun j hj => nI_le (b := 10) hj (by omega)
  -- the reference, by the value asked for
  have inb : ∀ K : Int32 → jM → Prop, (∀ k, 1 ≤ k → k ≤ 6 → a1 = nI (10 + k) → K (IM 105 k) IM) → ((¬ ∃ k, 1 ≤ k ∧ k ≤ 6 ∧ a1 = nI (10 + k)) → K (-9) IM) → MD_in a1 11 16 IM (fun r_3 => ((r_3 = 0 → K (-9) IM) ∧ (¬ r_3 = 0 → (vp_in (a1 - 10) 7 ∧ K (IM 105 (a1 - 10).toNatClampNeg) IM)))) := by
    intro K k1 k2
    by_cases hh : ∃ k, 1 ≤ k ∧ k ≤ 6 ∧ a1 = nI (10 + k)
    · obtain ⟨k, h1, h6, rfl⟩ := hh
      refine tM_in_yes (nI_nlt (a := 10 + k) (b := 11) (by omega) (by omega)) (nI_nlt (a := 16) (b := 10 + k) (by omega) (by omega)) ⟨fun q => absurd q (by decide), fun _ => ?_⟩
      rw [show (10 : Int32) = nI 10 from rfl, pk_sub (by omega), Nat.add_sub_cancel_left, clamp (by omega)]
      exact ⟨vp_in_nI (by omega) (by omega), k1 k h1 h6 rfl⟩
    · refine tM_in_no ?_ ⟨fun _ => k2 hh, fun q => absurd rfl q⟩
      by_cases q : a1 < 11
      · exact Or.inl q
      · refine Or.inr (Classical.byContradiction fun q2 => hh ?_)
        have h0 : ¬ a1 < 0 := fun z => q (by rw [Int32.lt_iff_toInt_lt] at z ⊢; have z0 : (0 : Int32).toInt = 0 := rfl; have z1 : (11 : Int32).toInt = 11 := rfl; omega)
        obtain ⟨j, hj, rfl⟩ := nI_of h0
        have j1 : 11 ≤ j := Nat.le_of_not_lt (fun z => q (nI_lt (b := 11) z (by omega)))
        have j2 : j ≤ 16 := Nat.le_of_not_lt (fun z => q2 (nI_lt (a := 16) z hj))
        exact ⟨j - 10, by omega, by omega, by rw [show 10 + (j - 10) = j by omega]⟩
  unfold lawN_28 OO_status
  have small : ∀ r : Int32, (a1 = 0 → r = IM 100 0) → (a1 = 1 → r = IM 100 1) → (a1 = 2 → r = nI (prs n a n / 2)) → (a1 = 3 → r = nI (ct (fun u => decide (u < n) && hd u))) → (a1 = 4 → r = IM 100 15) → (a1 = 5 → r = IM 100 18) → (a1 = 6 → r = IM 100 19) → (a1 = 7 → r = dgF (fun k => nI (a (k / n) (k % n))) (n * n)) → (¬ a1 = 0 → ¬ a1 = 1 → ¬ a1 = 2 → ¬ a1 = 3 → ¬ a1 = 4 → ¬ a1 = 5 → ¬ a1 = 6 → ¬ a1 = 7 → (∀ k, 1 ≤ k → k ≤ 6 → a1 = nI (10 + k) → r = IM 105 k) ∧ ((¬ ∃ k, 1 ≤ k ∧ k ≤ 6 ∧ a1 = nI (10 + k)) → r = -9)) → MD_status 100 a1 IM (fun rm IM3 => r = rm ∧ RR IX IM3) := by
    intro r r0 r1 r2 r3 r4 r5 r6 r7 r8
    unfold MD_status
    simp only [jrs]
    refine ⟨fun q => ⟨r0 q, h⟩, fun q => ⟨r1 q, h⟩, fun q => tM_beginNet hn mt (fun J j1 j2 => ?_) (okp hok), fun q => ?_, fun q => ⟨r4 q, h⟩, fun q => ⟨r5 q, h⟩, fun q => ⟨r6 q, h⟩, fun q => ?_, fun q0 q1 q2 q3 q4 q5 q6 q7 => ?_⟩
    · unfold MD_status_64
      have hRJ := h.scratch j1
      refine lp_n2 n (fun k x y => y = nI k ∧ x = nI (prs n a k)) ?_ ?_ (Nat.zero_le _) ⟨rfl, rfl⟩
      · rintro k x y X hk ⟨rfl, rfl⟩ go
        unfold MD_status_64b
        dsimp only
        simp only [jrs]
        rw [j1 100 (by omega), mt.1, clamp (by omega), j2 k hk]
        refine ⟨fun q => absurd q (ge_no hk (by omega)), fun _ => ⟨vp_in_nI (by omega) (by omega), t_ones _ _ _ (fun v ev => go _ _ ⟨nI_1 k, ?_⟩)⟩⟩
        rw [ev, nI_add]; rfl
      · rintro x y X ⟨rfl, rfl⟩
        unfold MD_status_64b
        dsimp only
        have := prs_le n a n
        rw [j1 100 (by omega), mt.1, show (2 : Int32) = nI 2 from rfl, pk_div (by omega) (by decide) (by decide)]
        exact ⟨fun _ => ⟨r2 q, hRJ⟩, fun q => absurd (nI_le (Nat.le_refl _) (by omega)) q⟩
    · unfold MD_status_96
      refine lp_n2 n (fun k x y => y = nI k ∧ x = nI (fb_ct (fun u => decide (u < n) && hd u) k)) ?_ ?_ (Nat.zero_le _) ⟨rfl, rfl⟩
      · rintro k x y X hk ⟨rfl, rfl⟩ go
        unfold MD_status_96b
        dsimp only
        simp only [jrs]
        rw [mt.1, clamp (by omega), mt.2.2.2.1 k hk]
        refine ⟨fun q => absurd q (ge_no hk (by omega)), fun _ => ⟨vp_in_nI (by omega) (by omega), fun q2 v ev => go _ _ ⟨nI_1 k, ?_⟩, fun q2 v ev => go _ _ ⟨nI_1 k, ?_⟩⟩⟩
        · have hf : hd k = false := by
            cases hh : hd k with
            | false => rfl
            | true => rw [hh] at q2; exact absurd q2 (by decide)
          rw [ev, fb_ct_succ, hf, Int32.add_zero]; simp
        · have hf : hd k = true := by
            cases hh : hd k with
            | true => rfl
            | false => rw [hh] at q2; exact absurd rfl q2
          rw [ev, fb_ct_succ, hf]
          simp [hk]
          exact nI_1 _
      · rintro x y X ⟨rfl, rfl⟩
        unfold MD_status_96b
        dsimp only
        rw [mt.1]
        refine ⟨fun _ => ⟨?_, h⟩, fun q => absurd (nI_le (Nat.le_refl _) (by omega)) q⟩
        rw [r3 q]
        congr 1
        unfold ct
        rw [show (24 : Nat) = n + (24 - n) by omega, fb_ct_split]
        have : fb_ct (fun k => decide (n + k < n) && hd (n + k)) (24 - n) = 0 := fb_ct_zero.mpr (fun k _ => by rw [decide_eq_false (by omega)]; rfl)
        omega
    · unfold MD_status_146
      have hnn : n * n ≤ 24 * 24 := Nat.mul_le_mul hn hn
      refine lp_n2 (n * n) (fun k x y => y = nI k ∧ x = dgF (fun k => nI (a (k / n) (k % n))) k) ?_ ?_ (Nat.zero_le _) ⟨rfl, rfl⟩
      · rintro k x y X hk ⟨rfl, rfl⟩ go
        unfold MD_status_146b
        dsimp only
        simp only [jrs]
        have h1 : k / n < n := by rw [Nat.div_lt_iff_lt_mul (by omega)]; exact hk
        have h2 : k % n < n := Nat.mod_lt _ (by omega)
        rw [mt.1, pk_mul, pk_rem (by omega) (by omega) (by omega), pk_div (by omega) (by omega) (by omega), show (24 : Int32) = nI 24 from rfl, pk_mul, nI_add, clamp (by omega), mt.2.2.1 _ _ h1 h2]
        have hne : ¬ nI n = 0 := nI_ne0 (by omega) (by omega)
        exact ⟨fun q => absurd q (ge_no hk (by omega)), fun _ => ⟨hne, hne, vp_in_nI (by omega) (by omega), fun v ev => go _ _ ⟨nI_1 k, ev⟩⟩⟩
      · rintro x y X ⟨rfl, rfl⟩
        unfold MD_status_146b
        dsimp only
        rw [mt.1, pk_mul]
        exact ⟨fun _ => ⟨r7 q, h⟩, fun q => absurd (nI_le (Nat.le_refl _) (by omega)) q⟩
    · obtain ⟨s1, s2⟩ := r8 q0 q1 q2 q3 q4 q5 q6 q7
      exact inb (fun rm IM3 => r = rm ∧ RR IX IM3) (fun k h1 h6 e => ⟨s1 k h1 h6 e, h⟩) (fun hh => ⟨s2 hh, h⟩)
  -- what the class answers where it looks into its own table
  have low : (¬ ∃ k, 1 ≤ k ∧ k ≤ 6 ∧ a1 = nI (10 + k)) → OO_status_28 0 a1 IX (fun rx => MD_status 100 a1 IM (fun rm IM3 => rx = rm ∧ RR IX IM3)) := by
    intro hno
    have dis : ∀ i j : Int32, i ≠ j → a1 = i → a1 = j → False := fun i j hij e1 e2 => hij (e1.symm.trans e2)
    unfold OO_status_28
    simp only [jrs]
    refine ⟨fun q => ?_, fun q => ?_, fun q => t_pairs hn xt ?_, fun q => ?_, fun q => ?_, fun q => ?_, fun q => ?_, fun q => t_digest hn1 hn xt ?_, fun q0 q1 q2 q3 q4 q5 q6 q7 => ?_⟩
    · rw [xt.1]
      refine small _ (fun _ => mt.1.symm) ?_ ?_ ?_ ?_ ?_ ?_ ?_ (fun z => absurd q z) <;> exact fun z => (dis _ _ (by decide) q z).elim
    · rw [xt.2.1]
      refine small _ ?_ (fun _ => mt.2.1.symm) ?_ ?_ ?_ ?_ ?_ ?_ (fun _ z => absurd q z) <;> exact fun z => (dis _ _ (by decide) q z).elim
    · refine small _ ?_ ?_ (fun _ => rfl) ?_ ?_ ?_ ?_ ?_ (fun _ _ z => absurd q z) <;> exact fun z => (dis _ _ (by decide) q z).elim
    · rw [xt.2.2.2.2.1]
      refine t_bitCount _ _ _ (small _ ?_ ?_ ?_ (fun _ => rfl) ?_ ?_ ?_ ?_ (fun _ _ _ z => absurd q z)) <;> exact fun z => (dis _ _ (by decide) q z).elim
    · rw [xg.1]
      refine small _ ?_ ?_ ?_ ?_ (fun _ => mg.1.symm) ?_ ?_ ?_ (fun _ _ _ _ z => absurd q z) <;> exact fun z => (dis _ _ (by decide) q z).elim
    · have e : IX 68 4 = IM 100 18 := by
        cases wd with
        | false => rw [xw.1, mw.1]
        | true =>
          obtain ⟨w, b, hb, hw, w4, -, -⟩ := xw
          obtain ⟨w', b', hb', hw', m8, -, -⟩ := mw
          rw [w4, m8, hw, hw', hb, hb']
      rw [e]
      refine small _ ?_ ?_ ?_ ?_ ?_ (fun _ => rfl) ?_ ?_ (fun _ _ _ _ _ z => absurd q z) <;> exact fun z => (dis _ _ (by decide) q z).elim
    · cases wd with
      | false =>
        rw [xw.2]
        refine ⟨fun z => absurd z (by decide), fun _ => ?_⟩
        refine small _ ?_ ?_ ?_ ?_ ?_ ?_ (fun _ => mw.2.symm) ?_ (fun _ _ _ _ _ _ z => absurd q z) <;> exact fun z => (dis _ _ (by decide) q z).elim
      | true =>
        obtain ⟨w, b, hb, hw, w4, w5, -⟩ := xw
        obtain ⟨w', b', hb', hw', m8, m9, -⟩ := mw
        have ew : w' = w := by rw [hw, hw', hb, hb']
        subst ew
        rw [w5]
        by_cases hl : w' < n
        · rw [if_pos hl] at m9 ⊢
          refine ⟨fun _ => ⟨vp_in_nI (by omega) (by omega), ?_⟩, fun z => absurd (nI_pos' (by omega)) z⟩
          rw [clamp (by omega), (xr.2 _ hl).1]
          refine small _ ?_ ?_ ?_ ?_ ?_ ?_ (fun _ => m9.symm) ?_ (fun _ _ _ _ _ _ z => absurd q z) <;> exact fun z => (dis _ _ (by decide) q z).elim
        · rw [if_neg hl] at m9 ⊢
          refine ⟨fun z => absurd z (by decide), fun _ => ?_⟩
          refine small _ ?_ ?_ ?_ ?_ ?_ ?_ (fun _ => m9.symm) ?_ (fun _ _ _ _ _ _ z => absurd q z) <;> exact fun z => (dis _ _ (by decide) q z).elim
    · refine small _ ?_ ?_ ?_ ?_ ?_ ?_ ?_ (fun _ => rfl) (fun _ _ _ _ _ _ _ z => absurd q z) <;> exact fun z => (dis _ _ (by decide) q z).elim
    · exact small _ (fun z => absurd z q0) (fun z => absurd z q1) (fun z => absurd z q2) (fun z => absurd z q3) (fun z => absurd z q4) (fun z => absurd z q5) (fun z => absurd z q6) (fun z => absurd z q7) (fun _ _ _ _ _ _ _ _ => ⟨fun k h1 h6 e => absurd ⟨k, h1, h6, e⟩ hno, fun _ => rfl⟩)
  refine ⟨fun q => low ?_, fun q => ⟨fun q2 => low ?_, fun q2 => ?_⟩⟩
  · rintro ⟨k, h1, h6, rfl⟩
    exact nI_ge (a := 10) (b := 10 + k) (by omega) (by omega) q
  · rintro ⟨k, h1, h6, rfl⟩
    exact nI_ge (a := 10 + k) (b := 17) (by omega) (by omega) q2
  · have h0 : ¬ a1 < 0 := fun z => q (by rw [Int32.lt_iff_toInt_lt] at z; rw [Int32.le_iff_toInt_le]; have z0 : (0 : Int32).toInt = 0 := rfl; have z1 : (10 : Int32).toInt = 10 := rfl; omega)
    obtain ⟨j, hj, rfl⟩ := nI_of h0
    have j1 : 10 < j := Nat.lt_of_not_le (fun z => q (nI_le (b := 10) z (by omega)))
    have j2 : j < 17 := Nat.lt_of_not_le (fun z => q2 (nI_le (a := 17) z hj))
    rw [show (10 : Int32) = nI 10 from rfl, pk_sub (by omega), clamp (by omega)]
    simp only [jrs]
    refine ⟨vp_in_nI (by omega) (by omega), ?_⟩
    rw [hc (j - 10) (by omega) (by omega)]
    have ne : ∀ i : Nat, i < 8 → ¬ nI j = nI i := fun i hi e => by have := (nI_eq hj (by omega)).mp e; omega
    refine small _ (fun z => absurd z (ne 0 (by omega))) (fun z => absurd z (ne 1 (by omega))) (fun z => absurd z (ne 2 (by omega))) (fun z => absurd z (ne 3 (by omega))) (fun z => absurd z (ne 4 (by omega))) (fun z => absurd z (ne 5 (by omega))) (fun z => absurd z (ne 6 (by omega))) (fun z => absurd z (ne 7 (by omega))) (fun _ _ _ _ _ _ _ _ => ⟨fun k h1 h6 e => ?_, fun hh => absurd ⟨j - 10, by omega, by omega, by rw [show 10 + (j - 10) = j by omega]⟩ hh⟩)
    have : j = 10 + k := (nI_eq hj (by omega)).mp e
    rw [show j - 10 = k by omega]
