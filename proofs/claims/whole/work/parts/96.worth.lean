/-! ===== worth ===== -/
/-- what both sides know of the WORK -/
theorem both_w {n p : Nat} {a : Nat → Nat → Nat} {od : Nat → Nat} {wd : Bool} {IX IM : jM} (xw : XW n p a od wd IX) (mw : MW n p a od wd IM) : ∃ (w : Nat) (b : Nat → Nat → Nat), w ≤ n ∧ b = (fun i j => a (od i) (od j)) ∧ IX 68 4 = nI w ∧ IM 100 18 = nI w ∧ ∀ k, k < w → IX 94 k = nI (Bk p b k k k) ∧ IX 95 k = nI (iv p (Bk p b k k k)) ∧ (∀ i, k < i → i < n → IX (70 + i) k = nI (on1 p b i k)) ∧ IM 114 (od k) = nI (Bk p b k k k) ∧ ∀ i, k < i → i < n → IM 115 (24 * od i + od k) = nI (on1 p b i k) := by
  cases wd with
  | false => exact ⟨0, _, Nat.zero_le _, rfl, xw.1, mw.1, fun k hk => absurd hk (Nat.not_lt_zero k)⟩
  | true =>
    obtain ⟨w, b, hb, hw, w4, w5, w6⟩ := xw
    obtain ⟨w', b', hb', hw', m8, m9, m6⟩ := mw
    have eb : b' = b := hb'.trans hb.symm
    subst eb
    have ew : w' = w := hw'.trans hw.symm
    subst ew
    exact ⟨w', b', by rw [hw]; exact wkd_le _ _ _, hb, w4, m8, fun k hk => ⟨(w6 k hk).1, (w6 k hk).2.1, (w6 k hk).2.2, (m6 k hk).1, (m6 k hk).2⟩⟩
theorem law_worth {IX IM : jM} (h : RR IX IM) (a1 a2 a3 : Int32) : lawN_22 RR IX IM a1 a2 a3 := by
  obtain ⟨n, p, a, hd, od, pl, sd, gn, wd, hok, xt, xr, xf, xl, xg, xw, mt, mr, mg, mw, ml, hc⟩ := id h
  have hn := hok.2.1
  have hp := hok.2.2.2.1
  have hp2 := hp.1
  have hp3 := hok.2.2.1
  have hs := hok.2.2.2.2.1
  have ho : Perm n od pl := hok.2.2.2.2.2.1
  obtain ⟨w, b, hwn, hbe, x4, m8, hval⟩ := both_w xw mw
  have hb : ∀ i j, i < n → j < n → b i j < p := fun i j hi hj => by rw [hbe]; exact (hs _ _ (ho i hi).1 (ho j hj).1).1
  have hlt := Bk_lt (show 0 < p by omega) hb
  unfold lawN_22 OO_worth MD_worth
  simp only [jrs]
  rw [x4, xt.1]
  refine ⟨fun q => ?_, fun q => tX_refuse (k := 5) (by omega) (by omega) m5_eq ?_⟩
  · have hw : w = n := by have := (nI_leI (by omega) (by omega)).mp q; omega
    subst hw
    unfold WO_product WO_product_4
    refine lp_n2 w (fun k x y => y = nI k ∧ x = nI (PR (fun i => Bk p b i i i) k % p)) ?_ ?_ (Nat.zero_le w) ⟨rfl, by rw [show PR (fun i => Bk p b i i i) 0 = 1 from rfl, Nat.mod_eq_of_lt (by omega)]; rfl⟩
    · rintro k x y X hk ⟨rfl, rfl⟩ go
      unfold WO_product_4b
      simp only [jrs]
      rw [clamp (show k < 2 ^ 31 by omega), (hval k hk).1, xt.1]
      refine ⟨fun q => absurd q (ge_no hk (by omega)), fun _ => ⟨vp_in_nI (by omega) (by omega), t_times hp2 hp3 xt.2.1 (Nat.mod_lt _ (by omega)) (hlt k k k hk hk) (go _ _ ⟨nI_1 k, ?_⟩)⟩⟩
      rw [Nat.mod_mul_mod]; rfl
    · rintro x y X ⟨rfl, rfl⟩
      unfold WO_product_4b
      dsimp only
      rw [xt.1, mt.1, m8]
      refine ⟨fun _ => ⟨fun _ => ?_, fun q2 => absurd (nI_le (Nat.le_refl w) (by omega)) q2⟩, fun q => absurd (nI_le (Nat.le_refl w) (by omega)) q⟩
      unfold MD_worth_22
      refine lp_n2 w (fun k x y => y = nI k ∧ x = lN (PR (fun u => Bk p b (pl u) (pl u) (pl u)) k % p)) ?_ ?_ (Nat.zero_le w) ⟨rfl, by rw [show PR (fun u => Bk p b (pl u) (pl u) (pl u)) 0 = 1 from rfl, Nat.mod_eq_of_lt (by omega)]; rfl⟩
      · rintro k x y X2 hk ⟨rfl, rfl⟩ go
        obtain ⟨-, -, o3, o4⟩ := ho k hk
        have h1 := (hval (pl k) o3).2.2.2.1
        rw [o4] at h1
        have l1 := hlt (pl k) (pl k) (pl k) o3 o3
        have l2 : PR (fun u => Bk p b (pl u) (pl u) (pl u)) k % p < p := Nat.mod_lt _ (by omega)
        have s1 := mul_small hp3 l2 l1
        unfold MD_worth_22b
        dsimp only
        simp only [jrs]
        rw [clamp (show k < 2 ^ 31 by omega), h1, mt.1, mt.2.1, nI_l (show p < 2 ^ 31 by omega), nI_l (show Bk p b (pl k) (pl k) (pl k) < 2 ^ 31 by omega), lN_mul, pk_lRem (by omega) (by omega) (by omega)]
        refine ⟨fun q => absurd q (ge_no hk (by omega)), fun _ => ⟨vp_in_nI (by omega) (by omega), lNz (by omega) (by omega), fun v ev => go _ _ ⟨nI_1 k, ?_⟩⟩⟩
        rw [ev, Nat.mod_mul_mod]; rfl
      · rintro x y X2 ⟨rfl, rfl⟩
        unfold MD_worth_22b
        dsimp only
        rw [mt.1, lN_i]
        refine ⟨fun _ => ⟨?_, h⟩, fun q => absurd (nI_le (Nat.le_refl w) (by omega)) q⟩
        rw [PR_perm (fun i => Bk p b i i i) w pl (fun i hi => (ho i hi).2.2.1) (fun i j hij hj e => by
          have e1 := (ho i (by omega)).2.2.2
          have e2 := (ho j hj).2.2.2
          rw [e, e2] at e1
          omega)]
  · rw [mt.1, m8]
    exact ⟨fun q2 => absurd q2 q, fun _ => tM_refuse (k := 5) (by omega) (by omega) m5_eq ⟨rfl, h.refuse 5 (by omega) (by omega)⟩⟩
