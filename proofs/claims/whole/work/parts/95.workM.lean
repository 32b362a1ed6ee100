/-! ===== WORK, the reference's side ===== -/
theorem md_sub_congr {p : Nat} (x : Int) {y z : Nat} (h : y % p = z % p) : md p (x - (y : Int)) = md p (x - (z : Int)) := by
  unfold md
  rw [Int.sub_emod x y, Int.sub_emod x z, ← Int.natCast_emod, ← Int.natCast_emod, h]
theorem Bk_step {p n : Nat} {b : Nat → Nat → Nat} (hp : isP p) (hb : ∀ i j, i < n → j < n → b i j < p) {k i j : Nat} (hk : k < n) (hi : i < n) : Bk p b (k + 1) i j = md p ((Bk p b k i j : Int) - ((on1 p b i k * on1 p b j k % p * Bk p b k k k % p : Nat) : Int)) := by
  have hp2 := hp.1
  rw [Bk_succ]
  apply md_sub_congr
  rw [Nat.mod_mod]
  rcases Nat.eq_zero_or_pos (Bk p b k k k) with h0 | h0
  · rw [on1_zero h0, on1_zero h0]; simp
  · have h1 : on1 p b i k * Bk p b k k k % p = Bk p b k i k := by
      unfold on1
      rw [Nat.mod_mul_mod, Nat.mul_assoc, Nat.mul_mod, iv_mul hp h0 (Bk_lt (by omega) hb k k k hk hk), Nat.mul_one, Nat.mod_mod, Nat.mod_eq_of_lt (Bk_lt (by omega) hb k i k hi hk)]
    rw [Nat.mod_mul_mod, Nat.mul_right_comm, Nat.mul_mod (on1 p b i k * Bk p b k k k), h1, ← Nat.mod_eq_of_lt (Bk_lt (show 0 < p by omega) hb k i k hi hk), ← Nat.mul_mod, Nat.mod_eq_of_lt (Bk_lt (show 0 < p by omega) hb k i k hi hk)]
def WM (n p : Nat) (b : Nat → Nat → Nat) (od : Nat → Nat) (k : Nat) (I : jM) : Prop := ∀ j, j < k → I 114 (od j) = nI (Bk p b j j j) ∧ ∀ i, j < i → i < n → I 115 (24 * od i + od j) = nI (on1 p b i j)
theorem lN_subI {x y : Nat} (hx : x < 2 ^ 31) (hy : y < 2 ^ 31) : (lN x - lN y).toInt = (x : Int) - (y : Int) := by
  rw [fb_subL, lN_toInt hx, lN_toInt hy] <;> rw [lN_toInt hx, lN_toInt hy] <;> omega
theorem mul_small {p x y : Nat} (hp : p ≤ 32749) (hx : x < p) (hy : y < p) : x * y < 2 ^ 30 := Nat.lt_of_le_of_lt (Nat.mul_le_mul (show x ≤ 32748 by omega) (show y ≤ 32748 by omega)) (by decide)
section WR
variable {n p : Nat} {a : Nat → Nat → Nat} {hd : Nat → Bool} {od pl sd : Nat → Nat} {I : jM} {b : Nat → Nat → Nat}
theorem tM_rest (hn : n ≤ 24) (hp : isP p) (hp3 : p ≤ 32749) (ho : Perm n od pl) (hb : ∀ i j, i < n → j < n → b i j < p) (hbe : b = fun i j => a (od i) (od j)) (mt : MT n p a hd sd I) (mr : MR n od I) {k i j : Nat} (wm : WM n p b od k I) (hki : k ≤ i) (hkj : k ≤ j) (hi : i < n) (hj : j < n) {K : Int32 → Prop} (hK : K (nI (Bk p b k i j))) : MD_rest 100 (nI (od i)) (nI (od j)) (nI k) I K := by
  have hp2 := hp.1
  have oi := (ho i hi).1
  have oj := (ho j hj).1
  have hlt := Bk_lt (show 0 < p by omega) hb
  unfold MD_rest
  simp only [jrs]
  rw [show (24 : Int32) = nI 24 from rfl, pk_mul, nI_add, clamp (show 24 * od i + od j < 2 ^ 31 by omega), mt.2.2.1 _ _ oi oj]
  have h0 : b i j = a (od i) (od j) := by rw [hbe]
  rw [← h0, nI_l (by have := hb i j hi hj; omega)]
  refine ⟨vp_in_nI (by omega) (by omega), fun w ew => ?_⟩
  subst ew
  unfold MD_rest_17
  refine lp_n2 k (fun m w v => v = nI m ∧ w = lN (Bk p b m i j)) ?_ ?_ (Nat.zero_le k) ⟨rfl, rfl⟩
  · rintro m w v X hm ⟨rfl, rfl⟩ go
    have om := (ho m (by omega)).1
    have hw := wm m hm
    have e1 := hw.2 i (by omega) hi
    have e2 := hw.2 j (by omega) hj
    have l1 := on1_lt (show 0 < p by omega) b i m
    have l2 := on1_lt (show 0 < p by omega) b j m
    have l3 := hlt m m m (by omega) (by omega)
    have l4 := hlt m i j hi hj
    have l5 : on1 p b i m * on1 p b j m % p < p := Nat.mod_lt _ (by omega)
    have l6 : on1 p b i m * on1 p b j m % p * Bk p b m m m % p < p := Nat.mod_lt _ (by omega)
    have s1 := mul_small hp3 l1 l2
    have s2 := mul_small hp3 l5 l3
    unfold MD_rest_17b
    dsimp only
    simp only [jrs]
    rw [clamp (show m < 2 ^ 31 by omega), mr m (by omega)]
    refine ⟨fun q => absurd q (ge_no hm (by omega)), fun _ => ⟨vp_in_nI (by omega) (by omega), fun v7 e7 => ?_⟩⟩
    subst e7
    rw [show (24 : Int32) = nI 24 from rfl, pk_mul, pk_mul, nI_add, nI_add, clamp (show 24 * od i + od m < 2 ^ 31 by omega), clamp (show 24 * od j + od m < 2 ^ 31 by omega), clamp (show od m < 2 ^ 31 by omega), e1, e2, hw.1, mt.2.1, nI_l (show on1 p b i m < 2 ^ 31 by omega), nI_l (show on1 p b j m < 2 ^ 31 by omega), nI_l (show Bk p b m m m < 2 ^ 31 by omega), nI_l (show p < 2 ^ 31 by omega), lN_mul, pk_lRem (by omega) (by omega) (by omega), lN_mul, pk_lRem (by omega) (by omega) (by omega)]
    refine ⟨vp_in_nI (by omega) (by omega), vp_in_nI (by omega) (by omega), lNz (by omega) (by omega), vp_in_nI (by omega) (by omega), lNz (by omega) (by omega), t_modulo hp2 (by omega) mt.2.1 _ ?_⟩
    rw [lN_subI (by omega) (by omega), ← Bk_step hp hb (show m < n by omega) hi]
    refine go _ _ ⟨nI_1 m, nI_l ?_⟩
    have := hlt (m + 1) i j hi hj
    omega
  · rintro w v X ⟨rfl, rfl⟩
    have l4 := hlt k i j hi hj
    unfold MD_rest_17b
    dsimp only
    refine ⟨fun _ => t_modulo hp2 (by omega) mt.2.1 _ ?_, fun q => absurd (nI_le (Nat.le_refl k) (by omega)) q⟩
    rw [lN_toInt (by omega), md_small l4]
    exact hK
theorem tM_work (hn : n ≤ 24) (hp : isP p) (hp3 : p ≤ 32749) (hs : ∀ u w, u < n → w < n → a u w < p ∧ a u w = a w u) (ho : Perm n od pl) (mt : MT n p a hd sd I) (mr : MR n od I) {K : Int32 → jM → Prop} (hK : ∀ J : jM, (∀ x, x ≠ 100 → x ≠ 114 → x ≠ 115 → J x = I x) → (∀ k, k ≠ 18 → k ≠ 19 → J 100 k = I 100 k) → MW n p a od true J → K (nI (wkd p (fun i j => a (od i) (od j)) n)) J) : MD_work 100 I K := by
  have hp2 := hp.1
  obtain ⟨b, hbe⟩ : ∃ b : Nat → Nat → Nat, b = fun i j => a (od i) (od j) := ⟨_, rfl⟩
  rw [← hbe] at hK
  have hb : ∀ i j, i < n → j < n → b i j < p := fun i j hi hj => by rw [hbe]; exact (hs _ _ (ho i hi).1 (ho j hj).1).1
  have hlt := Bk_lt (show 0 < p by omega) hb
  unfold MD_work
  refine tM_notWorked (fun I1 i1 i2 i8 i9 => ?_)
  unfold MD_work_6
  refine lp_n2 n (fun k v J => v = nI k ∧ (∀ x, x ≠ 100 → x ≠ 114 → x ≠ 115 → J x = I x) ∧ (∀ k, k ≠ 18 → k ≠ 19 → J 100 k = I 100 k) ∧ J 100 18 = nI k ∧ J 100 19 = -9 ∧ WM n p b od k J ∧ ∀ j, j < k → stk p b n j = false) ?_ ?_ (Nat.zero_le n) ⟨rfl, fun x h1 _ _ => i1 x h1, i2, i8, i9, fun j h => absurd h (Nat.not_lt_zero j), fun j h => absurd h (Nat.not_lt_zero j)⟩
  · rintro k v J X hk ⟨rfl, j1, j2, j8, j9, wm, js⟩ go
    have ok := (ho k hk).1
    have hdk := hlt k k k hk hk
    have mtJ : MT n p a hd sd J := mt.fr (j2 0 (by omega) (by omega)) (j2 1 (by omega) (by omega)) (j1 101 (by omega) (by omega) (by omega)) (j1 102 (by omega) (by omega) (by omega)) (j1 104 (by omega) (by omega) (by omega))
    have mrJ : MR n od J := mr.fr (j1 103 (by omega) (by omega) (by omega))
    unfold MD_work_6b
    simp only [jrs]
    rw [clamp (show k < 2 ^ 31 by omega), mrJ k hk, mtJ.1]
    refine ⟨fun q => absurd q (ge_no hk (by omega)), fun _ => ⟨vp_in_nI (by omega) (by omega), fun v2 ev2 => ?_⟩⟩
    subst ev2
    refine tM_rest hn hp hp3 ho hb hbe mtJ mrJ wm (Nat.le_refl k) (Nat.le_refl k) hk hk ⟨vp_in_nI (by omega) (by omega), fun J1 f1 v4 ev4 => ?_⟩
    rw [nI_1] at ev4
    subst ev4
    rw [clamp (show od k < 2 ^ 31 by omega)] at f1
    have g1 : ∀ x, x ≠ 114 → J1 x = J x := fun x hx => by rw [f1, jwr_ne hx]
    have g114 : ∀ j, j < k → J1 114 (od j) = J 114 (od j) := fun j hj => by
      rw [f1, jwr_at, if_neg]
      rintro ⟨-, e⟩
      have := ho.inj (by omega) hk e
      omega
    have g114k : J1 114 (od k) = nI (Bk p b k k k) := by rw [f1, jwr_at, if_pos ⟨rfl, rfl⟩]
    unfold MD_work_41
    refine lp_n3 n (fun m fl v J3 => v = nI m ∧ k < m ∧ ((fl = 0 ∧ ∀ i, k < i → i < m → Bk p b k i k = 0) ∨ (fl = 1 ∧ ∃ i, k < i ∧ i < m ∧ Bk p b k i k ≠ 0)) ∧ (∀ x, x ≠ 115 → J3 x = J1 x) ∧ (∀ x, (∀ i, k < i → i < n → x ≠ 24 * od i + od k) → J3 115 x = J 115 x) ∧ ∀ i, k < i → i < m → J3 115 (24 * od i + od k) = nI (on1 p b i k)) ?_ ?_ (show k + 1 ≤ n by omega) ⟨rfl, by omega, Or.inl ⟨rfl, fun i h1 h2 => absurd h2 (by omega)⟩, fun _ _ => rfl, fun x _ => by rw [g1 115 (by omega)], fun i h1 h2 => absurd h2 (by omega)⟩
    · rintro m fl v J3 X2 hm ⟨rfl, hkm, hfl, m1, m2, m3⟩ go2
      have om := (ho m hm).1
      have hR := hlt k m k hm hk
      have e0 : ∀ x, x ≠ 114 → x ≠ 115 → J3 x = J x := fun x h1 h2 => (m1 x h2).trans (g1 x h1)
      have mt3 : MT n p a hd sd J3 := mtJ.fr (by rw [e0 100 (by omega) (by omega)]) (by rw [e0 100 (by omega) (by omega)]) (e0 101 (by omega) (by omega)) (e0 102 (by omega) (by omega)) (e0 104 (by omega) (by omega))
      have mr3 : MR n od J3 := mrJ.fr (e0 103 (by omega) (by omega))
      have wm3 : WM n p b od k J3 := fun j hj => by
        refine ⟨by rw [m1 114 (by omega), g114 j hj]; exact (wm j hj).1, fun i h1 h2 => ?_⟩
        rw [m2 _ (fun i2 h3 h4 e => ?_)]
        · exact (wm j hj).2 i h1 h2
        · have o1 := (ho j (by omega)).1
          have o2 := (ho i h2).1
          have o3 := (ho i2 h4).1
          have : od j = od k := by omega
          have := ho.inj (by omega) hk this
          omega
      have fin : ∀ s0 : Int32, ((s0 = 0 ∧ ∀ i, k < i → i < m + 1 → Bk p b k i k = 0) ∨ (s0 = 1 ∧ ∃ i, k < i ∧ i < m + 1 ∧ Bk p b k i k ≠ 0)) → MD_work_83 100 (nI k) (nI (od k)) (nI m) (nI (od m)) (nI (Bk p b k m k)) s0 J3 K X X2 := fun s0 hs0 => by
        have wr : ∀ J4 : jM, J4 = jwr J3 115 (24 * od m + od k) (nI (on1 p b m k)) → X2 (s0, nI m + 1, J4) := fun J4 f4 => by
          refine go2 _ _ _ ⟨nI_1 m, by omega, hs0, fun x hx => by rw [f4, jwr_ne hx]; exact m1 x hx, fun x hx => ?_, fun i h1 h2 => ?_⟩
          · rw [f4, jwr_at, if_neg (fun e => hx m hkm hm e.2)]; exact m2 x hx
          · rw [f4, jwr_at]
            by_cases e : i = m
            · subst e; rw [if_pos ⟨rfl, rfl⟩]
            · rw [if_neg (fun e2 => e (ho.inj (by omega) hm (by have := e2.2; omega)))]; exact m3 i h1 (by omega)
        have mi := mul_small hp3 hR (iv_lt (p := p) (d := Bk p b k k k) (by omega))
        unfold MD_work_83
        simp only [jrs]
        rw [clamp (show od k < 2 ^ 31 by omega), m1 114 (by omega), g114k, show (24 : Int32) = nI 24 from rfl, pk_mul, nI_add, clamp (show 24 * od m + od k < 2 ^ 31 by omega), mt3.2.1, nI_l (show p < 2 ^ 31 by omega), nI_l (show Bk p b k m k < 2 ^ 31 by omega)]
        refine ⟨vp_in_nI (by omega) (by omega), fun q => ⟨vp_in_nI (by omega) (by omega), tM_inverse hp2 hp3 mt3.2.1 hdk (Nat.pos_of_ne_zero (fun e => q (by rw [e]; rfl))) ⟨lNz (by omega) (by omega), vp_in_nI (by omega) (by omega), fun J4 f4 => wr J4 ?_⟩⟩, fun q => ⟨vp_in_nI (by omega) (by omega), fun J4 f4 => wr J4 ?_⟩⟩
        · have := iv_lt (p := p) (d := Bk p b k k k) (by omega)
          rw [nI_l (show iv p (Bk p b k k k) < 2 ^ 31 by omega), lN_mul, pk_lRem (by omega) (by omega) (by omega), lN_i] at f4
          exact f4
        · have hz : Bk p b k k k = 0 := (nI_eq (by omega) (by omega)).mp q
          rw [on1_zero hz]; exact f4
      unfold MD_work_41b
      dsimp only
      simp only [jrs]
      rw [clamp (show m < 2 ^ 31 by omega), mr3 m hm, mt3.1]
      refine ⟨fun q => absurd q (ge_no hm (by omega)), fun _ => ⟨vp_in_nI (by omega) (by omega), fun v5 ev5 => ?_⟩⟩
      subst ev5
      refine tM_rest hn hp hp3 ho hb hbe mt3 mr3 wm3 (by omega) (Nat.le_refl k) hm hk ?_
      rcases hfl with ⟨f0, hz⟩ | ⟨f1', i, h1, h2, h3⟩
      · subst f0
        refine ⟨fun q => absurd rfl q, fun _ => ⟨fun q => fin 0 (Or.inl ⟨rfl, fun i h1 h2 => ?_⟩), fun q => fin 1 (Or.inr ⟨rfl, m, hkm, by omega, fun e => q (by rw [e]; rfl)⟩)⟩⟩
        by_cases e : i = m
        · subst e; exact (nI_eq (by omega) (by omega)).mp q
        · exact hz i h1 (by omega)
      · subst f1'
        exact ⟨fun _ => fin 1 (Or.inr ⟨rfl, i, h1, by omega, h3⟩), fun q => absurd q (by decide)⟩
    · rintro fl v J3 X2 ⟨rfl, hkm, hfl, m1, m2, m3⟩
      have e0 : ∀ x, x ≠ 114 → x ≠ 115 → J3 x = J x := fun x h1 h2 => (m1 x h2).trans (g1 x h1)
      have wm3 : WM n p b od (k + 1) J3 := fun j hj => by
        by_cases e : j = k
        · subst e
          exact ⟨by rw [m1 114 (by omega)]; exact g114k, fun i h1 h2 => m3 i h1 h2⟩
        · refine ⟨by rw [m1 114 (by omega), g114 j (by omega)]; exact (wm j (by omega)).1, fun i h1 h2 => ?_⟩
          rw [m2 _ (fun i2 h3 h4 e => ?_)]
          · exact (wm j (by omega)).2 i h1 h2
          · have o1 := (ho j (by omega)).1
            have o2 := (ho i h2).1
            have o3 := (ho i2 h4).1
            have : od j = od k := by omega
            have := ho.inj (by omega) hk this
            omega
      have cont : stk p b n k = false → ∀ J4 : jM, J4 = jwr J3 100 18 (nI (k + 1)) → X (nI (k + 1), J4) := fun hst J4 f4 => go _ _ ⟨rfl, fun x h1 h2 h3 => by rw [f4, jwr_ne h1, e0 x h2 h3]; exact j1 x h1 h2 h3, fun k' h1 h2 => by rw [f4, jwr_at, if_neg (by omega), e0 100 (by omega) (by omega)]; exact j2 k' h1 h2, by rw [f4, jwr_at, if_pos ⟨rfl, rfl⟩], by rw [f4, jwr_at, if_neg (by omega), e0 100 (by omega) (by omega)]; exact j9, fun j hj => by
        rw [f4, jwr_ne (by omega), jwr_ne (by omega)]; exact wm3 j hj, fun j hj => by
        by_cases e : j = k
        · rw [e]; exact hst
        · exact js j (by omega)⟩
      unfold MD_work_41b
      dsimp only
      simp only [jrs]
      rw [clamp (show od k < 2 ^ 31 by omega), m1 114 (by omega), g114k, e0 100 (by omega) (by omega), mtJ.1, j8, nI_1]
      refine ⟨fun _ => ⟨vp_in_nI (by omega) (by omega), fun q => cont (stk_no (fun hh => q (by rw [hh.1]; rfl))), fun q => ⟨fun q2 => cont (stk_no (fun hh => ?_)), fun q2 J4 f4 => ?_⟩⟩, fun q => absurd (nI_le (Nat.le_refl n) (by omega)) q⟩
      · obtain ⟨-, i, h1, h2, h3⟩ := hh
        rcases hfl with ⟨-, hz⟩ | ⟨f1', -⟩
        · exact h3 (hz i h1 h2)
        · rw [f1'] at q2; exact absurd q2 (by decide)
      · have hz : Bk p b k k k = 0 := (nI_eq (by omega) (by omega)).mp q
        rcases hfl with ⟨f0, -⟩ | ⟨-, hex⟩
        · exact absurd f0 q2
        have hw : wkd p b n = k := fa_first_spec hk (stk_iff.mpr ⟨hz, hex⟩) js
        have hKK := hK J4 (fun x h1 h2 h3 => by rw [f4, jwr_ne h1, e0 x h2 h3]; exact j1 x h1 h2 h3) (fun k' h1 h2 => by rw [f4, jwr_at, if_neg (by omega), e0 100 (by omega) (by omega)]; exact j2 k' h1 h2)
        have h18 : J4 100 18 = nI k := by rw [f4, jwr_at, if_neg (by omega), e0 100 (by omega) (by omega)]; exact j8
        rw [h18]
        rw [hw] at hKK
        apply hKK
        unfold MW
        rw [if_pos rfl]
        refine ⟨k, b, hbe, hw.symm, h18, by rw [f4, jwr_at, if_pos ⟨rfl, rfl⟩, if_pos hk], fun j hj => ?_⟩
        rw [f4, jwr_ne (by omega), jwr_ne (by omega)]
        exact wm3 j (by omega)
  · rintro v J X ⟨rfl, j1, j2, j8, j9, wm, js⟩
    unfold MD_work_6b
    dsimp only
    rw [j2 0 (by omega) (by omega), mt.1, j8]
    have hw : wkd p b n = n := fa_first_none js
    have hKK := hK J j1 j2
    rw [hw] at hKK
    refine ⟨fun _ => hKK ?_, fun q => absurd (nI_le (Nat.le_refl n) (by omega)) q⟩
    unfold MW
    rw [if_pos rfl]
    exact ⟨n, b, hbe, hw.symm, j8, by rw [if_neg (Nat.lt_irrefl n)]; exact j9, wm⟩
end WR
/-- work() -/
theorem law_work {IX IM : jM} (h : RR IX IM) (a1 a2 a3 : Int32) : lawN_19 RR IX IM a1 a2 a3 := by
  obtain ⟨n, p, a, hd, od, pl, sd, gn, wd, hok, xt, xr, xf, xl, xg, xw, mt, mr, mg, mw, ml, hc⟩ := id h
  have hn := hok.2.1
  have hp := hok.2.2.2.1
  have hp3 := hok.2.2.1
  have hs := hok.2.2.2.2.1
  have ho : Perm n od pl := hok.2.2.2.2.2.1
  unfold lawN_19 OO_work
  simp only [jrs]
  refine t_workX hn hp.1 hp3 hs ho xt xr (fun JX eX xw2 => ?_)
  obtain ⟨w, b, hbe, hw, w4, -⟩ := id xw2
  rw [w4, hw, hbe]
  refine tM_work hn hp hp3 hs ho mt mr (fun JM eM eM0 mw2 => ⟨rfl, ?_⟩)
  exact ⟨n, p, a, hd, od, pl, sd, gn, true, hok, xt.fr (fun c _ _ => eX c (by omega)) hn, xr.fr (fun c _ _ => eX c (by omega)), xf.fr (by rw [eX 0 (by omega)]) (fun c _ _ => eX c (by omega)), xl.fr (by rw [eX 0 (by omega)]) (fun c _ _ => eX c (by omega)), xg.fr (fun c _ _ => eX c (by omega)), xw2, mt.fr (eM0 0 (by omega) (by omega)) (eM0 1 (by omega) (by omega)) (eM 101 (by omega) (by omega) (by omega)) (eM 102 (by omega) (by omega) (by omega)) (eM 104 (by omega) (by omega) (by omega)), mr.fr (eM 103 (by omega) (by omega) (by omega)), mg.fr (eM0 15 (by omega) (by omega)) (eM 111 (by omega) (by omega) (by omega)) (eM 112 (by omega) (by omega) (by omega)) (eM 113 (by omega) (by omega) (by omega)), mw2, ml.fr (eM0 13 (by omega) (by omega)) (eM 110 (by omega) (by omega) (by omega)), fun k h1 h6 => by rw [eX 99 (by omega), eM 105 (by omega) (by omega) (by omega)]; exact hc k h1 h6⟩
