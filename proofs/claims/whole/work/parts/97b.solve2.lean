/-! ===== solve, inside: the calls ===== -/
section SV
variable {n p w : Nat} {b : Nat → Nat → Nat} {I : jM} {a : Nat → Nat → Nat} {hd : Nat → Bool} {od pl sd : Nat → Nat}
theorem t_canDivide (hn : n ≤ 24) (hp : p ≤ 32749) (hwn : w ≤ n) (h4 : I 68 4 = nI w) (hlt : ∀ k, k < n → Bk p b k k k < p) (h94 : ∀ k, k < w → I 94 k = nI (Bk p b k k k)) {K : Int32 → Prop} (h1 : w = n → (∀ k, k < n → Bk p b k k k ≠ 0) → K 1) (h0 : ¬ (w = n ∧ ∀ k, k < n → Bk p b k k k ≠ 0) → K 0) : WO_canDivide 68 (nI n) I K := by
  unfold WO_canDivide WO_canDivide_2
  refine lp_n w (fun m (s : Int32) => s = nI m ∧ ∀ k, k < m → Bk p b k k k ≠ 0) ?_ ?_ (Nat.zero_le w) ⟨rfl, fun k h => absurd h (Nat.not_lt_zero k)⟩
  · rintro m s X hm ⟨rfl, hz⟩ go
    have := hlt m (by omega)
    unfold WO_canDivide_2b
    simp only [jrs]
    rw [clamp (show m < 2 ^ 31 by omega), h4, h94 m hm]
    refine ⟨fun q => absurd q (ge_no hm (by omega)), fun _ => ⟨vp_in_nI (by omega) (by omega), fun q => go _ ⟨nI_1 m, fun k hk => ?_⟩, fun q => h0 (fun hh => hh.2 m (by omega) ((nI_eq (by omega) (by omega)).mp q))⟩⟩
    by_cases e : k = m
    · subst e; exact fun e2 => q (by rw [e2]; rfl)
    · exact hz k (by omega)
  · rintro s X ⟨rfl, hz⟩
    unfold WO_canDivide_2b
    rw [h4]
    refine ⟨fun _ => ⟨fun q => h0 (fun hh => q (by rw [hh.1])), fun q => ?_⟩, fun q => absurd (nI_le (Nat.le_refl w) (by omega)) q⟩
    have e : w = n := (nI_eq (by omega) (by omega)).mp q
    exact h1 e (by rw [← e]; exact hz)
theorem tM_isSolved (hn : n ≤ 24) (hp : p ≤ 32749) (hwn : w ≤ n) (ho : Perm n od pl) (h0' : I 100 0 = nI n) (h18 : I 100 18 = nI w) (hlt : ∀ k, k < n → Bk p b k k k < p) (h114 : ∀ k, k < w → I 114 (od k) = nI (Bk p b k k k)) {K : Int32 → Prop} (h1 : w = n → (∀ k, k < n → Bk p b k k k ≠ 0) → K 1) (h0 : ¬ (w = n ∧ ∀ k, k < n → Bk p b k k k ≠ 0) → K 0) : MD_isSolved 100 I K := by
  unfold MD_isSolved
  rw [h18, h0']
  refine ⟨fun q => ?_, fun q => ?_⟩
  · unfold MD_isSolved_19
    intro X hX
    refine hX _ ?_
    unfold MD_isSolved_19b
    dsimp only
    have hK := h0 (fun hh => q (by rw [hh.1]))
    exact ⟨fun _ => ⟨rfl, hK⟩, fun _ => ⟨fun _ => ⟨rfl, hK⟩, fun q2 => absurd rfl q2⟩⟩
  · have e : w = n := (nI_eq (by omega) (by omega)).mp q
    subst e
    unfold MD_isSolved_19
    refine lp_n2 w (fun m s v => v = nI m ∧ ((s = 1 ∧ ∀ u, u < m → Bk p b (pl u) (pl u) (pl u) ≠ 0) ∨ (s = 0 ∧ ∃ u, u < w ∧ Bk p b (pl u) (pl u) (pl u) = 0))) ?_ ?_ (Nat.zero_le w) ⟨rfl, Or.inl ⟨rfl, fun u h => absurd h (Nat.not_lt_zero u)⟩⟩
    · rintro m s v X hm ⟨rfl, hs⟩ go
      obtain ⟨-, -, o3, o4⟩ := ho m hm
      have e1 := h114 (pl m) o3
      rw [o4] at e1
      have := hlt (pl m) o3
      unfold MD_isSolved_19b
      dsimp only
      simp only [jrs]
      rw [clamp (show m < 2 ^ 31 by omega), h0', e1]
      refine ⟨fun q => absurd q (ge_no hm (by omega)), fun _ => ?_⟩
      rcases hs with ⟨rfl, hz⟩ | ⟨rfl, u, hu, hz⟩
      · refine ⟨fun q => absurd q (by decide), fun _ => ⟨vp_in_nI (by omega) (by omega), fun q => go _ _ ⟨nI_1 m, Or.inr ⟨rfl, m, hm, (nI_eq (by omega) (by omega)).mp q⟩⟩, fun q => go _ _ ⟨nI_1 m, Or.inl ⟨rfl, fun u hu => ?_⟩⟩⟩⟩
        by_cases e : u = m
        · subst e; exact fun e2 => q (by rw [e2]; rfl)
        · exact hz u (by omega)
      · exact ⟨fun _ => ⟨rfl, h0 (fun hh => hh.2 (pl u) (ho u hu).2.2.1 hz)⟩, fun q => absurd rfl q⟩
    · rintro s v X ⟨rfl, hs⟩
      unfold MD_isSolved_19b
      dsimp only
      rw [h0']
      refine ⟨fun _ => ?_, fun q => absurd (nI_le (Nat.le_refl w) (by omega)) q⟩
      rcases hs with ⟨rfl, hz⟩ | ⟨rfl, u, hu, hz⟩
      · refine ⟨rfl, h1 rfl (fun k hk => ?_)⟩
        obtain ⟨o1, o2, -, -⟩ := ho k hk
        have := hz (od k) o1
        rw [o2] at this
        exact this
      · exact ⟨rfl, h0 (fun hh => hh.2 (pl u) (ho u hu).2.2.1 hz)⟩
theorem t_takeSides (hn : n ≤ 24) (ho : Perm n od pl) (xt : XT n p a hd sd I) (xr : XR n od pl I) {K : jM → Prop} (hK : ∀ J : jM, (∀ x, x ≠ 96 → J x = I x) → (∀ j, j < n → J 96 j = nI (sd (od j))) → K J) : WO_takeSides 68 1 30 I K := by
  unfold WO_takeSides WO_takeSides_2
  refine lp_n2 n (fun k v J => v = nI k ∧ (∀ x, x ≠ 96 → J x = I x) ∧ ∀ j, j < k → J 96 j = nI (sd (od j))) ?_ ?_ (Nat.zero_le n) ⟨rfl, fun _ _ => rfl, fun j h => absurd h (Nat.not_lt_zero j)⟩
  · rintro k v J X hk ⟨rfl, j1, j2⟩ go
    have ok := (ho k hk).1
    unfold WO_takeSides_2b
    simp only [jrs]
    rw [clamp (show k < 2 ^ 31 by omega), j1 1 (by omega), xt.1, j1 31 (by omega), (xr.2 k hk).1, clamp (show od k < 2 ^ 31 by omega), j1 29 (by omega), xt.2.2.2.2.2 _ ok]
    refine ⟨fun q => absurd q (ge_no hk (by omega)), fun _ => ⟨vp_in_nI (by omega) (by omega), vp_in_nI (by omega) (by omega), vp_in_nI (by omega) (by omega), fun J3 f3 => go _ _ ⟨nI_1 k, fun x hx => by rw [f3, jwr_ne hx]; exact j1 x hx, fun j hj => ?_⟩⟩⟩
    rw [f3, jwr_at]
    by_cases e : j = k
    · subst e; rw [if_pos ⟨rfl, rfl⟩]
    · rw [if_neg (by omega)]; exact j2 j (by omega)
  · rintro v J X ⟨rfl, j1, j2⟩
    unfold WO_takeSides_2b
    dsimp only
    rw [j1 1 (by omega), xt.1]
    exact ⟨fun _ => hK J j1 j2, fun q => absurd (nI_le (Nat.le_refl n) (by omega)) q⟩
theorem t_takeSingle (hn : n ≤ 24) {c : Nat} (hc : c < n) {K : jM → Prop} (hK : ∀ J : jM, (∀ x, x ≠ 96 → J x = I x) → (∀ j, j < n → J 96 j = nI (if j = c then 1 else 0)) → K J) : WO_takeSingle 68 (nI n) (nI c) I K := by
  unfold WO_takeSingle WO_takeSingle_2
  refine lp_n2 n (fun k v J => v = nI k ∧ (∀ x, x ≠ 96 → J x = I x) ∧ ∀ j, j < k → J 96 j = nI (if j = c then 1 else 0)) ?_ ?_ (Nat.zero_le n) ⟨rfl, fun _ _ => rfl, fun j h => absurd h (Nat.not_lt_zero j)⟩
  · rintro k v J X hk ⟨rfl, j1, j2⟩ go
    unfold WO_takeSingle_2b
    simp only [jrs]
    rw [clamp (show k < 2 ^ 31 by omega)]
    have fin : ∀ (r : Int32) (J3 : jM), r = nI (if k = c then 1 else 0) → J3 = jwr J 96 k r → X (nI k + 1, J3) := fun r J3 hr f3 => go _ _ ⟨nI_1 k, fun x hx => by rw [f3, jwr_ne hx]; exact j1 x hx, fun j hj => by
      rw [f3, jwr_at]
      by_cases e : j = k
      · subst e; rw [if_pos ⟨rfl, rfl⟩]; exact hr
      · rw [if_neg (by omega)]; exact j2 j (by omega)⟩
    exact ⟨fun q => absurd q (ge_no hk (by omega)), fun _ => ⟨fun q => ⟨vp_in_nI (by omega) (by omega), fun J3 f3 => fin 0 J3 (by rw [if_neg (fun e => q (by rw [e]))]; rfl) f3⟩, fun q => ⟨vp_in_nI (by omega) (by omega), fun J3 f3 => fin 1 J3 (by rw [if_pos ((nI_eq (by omega) (by omega)).mp q)]; rfl) f3⟩⟩⟩
  · rintro v J X ⟨rfl, j1, j2⟩
    unfold WO_takeSingle_2b
    dsimp only
    exact ⟨fun _ => hK J j1 j2, fun q => absurd (nI_le (Nat.le_refl n) (by omega)) q⟩
end SV
/-- only scratch cells have changed -/
theorem RR.scratch2 {IX IM JX JM : jM} (h : RR IX IM) (eX : ∀ x, x ≠ 96 → JX x = IX x) (eM : ∀ x, x ≠ 116 → JM x = IM x) : RR JX JM := by
  obtain ⟨n, p, a, hd, od, pl, sd, gn, wd, hok, xt, xr, xf, xl, xg, xw, mt, mr, mg, mw, ml, hc⟩ := h
  exact ⟨n, p, a, hd, od, pl, sd, gn, wd, hok, xt.fr (fun c _ _ => eX c (by omega)) hok.2.1, xr.fr (fun c _ _ => eX c (by omega)), xf.fr (by rw [eX 0 (by omega)]) (fun c _ _ => eX c (by omega)), xl.fr (by rw [eX 0 (by omega)]) (fun c _ _ => eX c (by omega)), xg.fr (fun c _ _ => eX c (by omega)), xw.fr (fun c _ _ => eX c (by omega)) hok.2.1, mt.fr (by rw [eM 100 (by omega)]) (by rw [eM 100 (by omega)]) (eM _ (by omega)) (eM _ (by omega)) (eM _ (by omega)), mr.fr (eM _ (by omega)), mg.fr (by rw [eM 100 (by omega)]) (eM _ (by omega)) (eM _ (by omega)) (eM _ (by omega)), mw.fr (by rw [eM 100 (by omega)]) (by rw [eM 100 (by omega)]) (eM _ (by omega)) (eM _ (by omega)), ml.fr (by rw [eM 100 (by omega)]) (eM _ (by omega)), fun k h1 h6 => by rw [eX 99 (by omega), eM 105 (by omega)]; exact hc k h1 h6⟩
/-- solve(u) -/
theorem law_solve {IX IM : jM} (h : RR IX IM) (a1 a2 a3 : Int32) : lawN_24 RR IX IM a1 a2 a3 := by
  obtain ⟨n, p, a, hd, od, pl, sd, gn, wd, hok, xt, xr, xf, xl, xg, xw, mt, mr, mg, mw, ml, hc⟩ := id h
  have hn1 := hok.1
  have hn := hok.2.1
  have hp := hok.2.2.2.1
  have hp2 := hp.1
  have hp3 := hok.2.2.1
  have hs := hok.2.2.2.2.1
  have hsd := hok.2.2.2.2.2.2.1
  have ho : Perm n od pl := hok.2.2.2.2.2.1
  obtain ⟨w, b, hwn, hbe, x4, m8, hval⟩ := both_w xw mw
  have hb : ∀ i j, i < n → j < n → b i j < p := fun i j hi hj => by rw [hbe]; exact (hs _ _ (ho i hi).1 (ho j hj).1).1
  have hlt := Bk_lt (show 0 < p by omega) hb
  unfold lawN_24 OO_solve
  simp only [jrs]
  rcases who a1 hn with ⟨u, hu, rfl⟩ | ⟨-, hx⟩
  · obtain ⟨-, -, o3, o4⟩ := ho u hu
    rw [xt.1]
    refine tX_isNobody_no hn xt.1 hu ⟨fun _ => t_canDivide hn hp3 hwn x4 (fun k hk => hlt k k k hk hk) (fun k hk => (hval k hk).1) (fun hw hnz => ⟨fun _ => ?_, fun q => absurd q (by decide)⟩) (fun hno => ⟨fun q => absurd rfl q, fun _ => tX_refuse (k := 5) (by omega) (by omega) m5_eq ?_⟩), fun q => absurd rfl q⟩
    · subst hw
      refine t_takeSides hn ho xt xr (fun J0 j1 j2 => ?_)
      refine t_resolve (b := b) (s := fun j => sd (od j)) hn1 hn hp2 hp3 (by rw [j1 1 (by omega)]; exact xt.1) (by rw [j1 2 (by omega)]; exact xt.2.1) (fun k hk => ⟨by rw [j1 95 (by omega)]; exact (hval k hk).2.1, fun i h1 h2 => by rw [j1 (70 + i) (by omega)]; exact (hval k hk).2.2.1 i h1 h2⟩) (fun j hj => hsd _ (ho j hj).1) j2 (fun JX k1 k2 => ?_)
      rw [clamp (show u < 2 ^ 31 by omega), k1 32 (by omega), j1 32 (by omega), (xr.2 u hu).2, clamp (show pl u < 2 ^ 31 by omega), k2 (pl u) o3]
      refine ⟨vp_in_nI (by omega) (by omega), vp_in_nI (by omega) (by omega), ?_⟩
      unfold MD_solve
      refine tM_isUnknown_yes hn mt.1 hu ⟨fun _ => tM_isSolved hn hp3 (Nat.le_refl w) ho mt.1 m8 (fun k hk => hlt k k k hk hk) (fun k hk => (hval k hk).2.2.2.1) (fun _ _ => ⟨fun _ => ?_, fun q => absurd q (by decide)⟩) (fun hno => absurd ⟨rfl, hnz⟩ hno), fun q => absurd q (by decide)⟩
      unfold MD_solve_30
      refine lp_n2 w (fun k v J => v = nI k ∧ (∀ x, x ≠ 116 → J x = IM x) ∧ ∀ x, x < k → J 116 x = nI (sd x)) ?_ ?_ (Nat.zero_le w) ⟨rfl, fun _ _ => rfl, fun x h => absurd h (Nat.not_lt_zero x)⟩
      · rintro k v J X hk ⟨rfl, m1, m2⟩ go
        unfold MD_solve_30b
        simp only [jrs]
        rw [clamp (show k < 2 ^ 31 by omega), m1 100 (by omega), mt.1, m1 104 (by omega), mt.2.2.2.2 k hk]
        refine ⟨fun q => absurd q (ge_no hk (by omega)), fun _ => ⟨vp_in_nI (by omega) (by omega), vp_in_nI (by omega) (by omega), fun J3 f3 => go _ _ ⟨nI_1 k, fun x hx => by rw [f3, jwr_ne hx]; exact m1 x hx, fun x hx => ?_⟩⟩⟩
        rw [f3, jwr_at]
        by_cases e : x = k
        · subst e; rw [if_pos ⟨rfl, rfl⟩]
        · rw [if_neg (by omega)]; exact m2 x (by omega)
      · rintro v J X ⟨rfl, m1, m2⟩
        unfold MD_solve_30b
        simp only [jrs]
        rw [m1 100 (by omega), mt.1]
        refine ⟨fun _ => tM_solveAll (b := b) (s := fun j => sd (od j)) hn1 hn hp2 hp3 ho (mt.fr (by rw [m1 100 (by omega)]) (by rw [m1 100 (by omega)]) (m1 101 (by omega)) (m1 102 (by omega)) (m1 104 (by omega))) (mr.fr (m1 103 (by omega))) hb (fun k hk => ⟨hnz k hk, by rw [m1 114 (by omega)]; exact (hval k hk).2.2.2.1, fun i h1 h2 => by rw [m1 115 (by omega)]; exact (hval k hk).2.2.2.2 i h1 h2⟩) (fun j hj => hsd _ (ho j hj).1) (fun j hj => m2 _ (ho j hj).1) (fun JM e1 e2 => ⟨vp_in_nI (by omega) (by omega), ?_, ?_⟩), fun q => absurd (nI_le (Nat.le_refl w) (by omega)) q⟩
        · have := e2 (pl u) o3
          rw [o4] at this
          rw [clamp (show u < 2 ^ 31 by omega), this]
        · exact h.scratch2 (fun x hx => (k1 x hx).trans (j1 x hx)) (fun x hx => (e1 x hx).trans (m1 x hx))
    · unfold MD_solve
      exact tM_isUnknown_yes hn mt.1 hu ⟨fun _ => tM_isSolved hn hp3 hwn ho mt.1 m8 (fun k hk => hlt k k k hk hk) (fun k hk => (hval k hk).2.2.2.1) (fun hw hnz => absurd ⟨hw, hnz⟩ hno) (fun _ => ⟨fun q => absurd rfl q, fun _ => tM_refuse (k := 5) (by omega) (by omega) m5_eq ⟨rfl, h.refuse 5 (by omega) (by omega)⟩⟩), fun q => absurd q (by decide)⟩
  · refine tX_isNobody_yes xt.1 hx ⟨fun q => absurd q (by decide), fun _ => tX_refuse (k := 1) (by omega) (by omega) m1_eq ?_⟩
    unfold MD_solve
    exact tM_isUnknown_no hn1 hn mt.1 hx ⟨fun q => absurd rfl q, fun _ => tM_refuse (k := 1) (by omega) (by omega) m1_eq ⟨rfl, h.refuse 1 (by omega) (by omega)⟩⟩
/-- inside(u, w) -/
theorem law_inside {IX IM : jM} (h : RR IX IM) (a1 a2 a3 : Int32) : lawN_25 RR IX IM a1 a2 a3 := by
  obtain ⟨n, p, a, hd, od, pl, sd, gn, wd, hok, xt, xr, xf, xl, xg, xw, mt, mr, mg, mw, ml, hc⟩ := id h
  have hn1 := hok.1
  have hn := hok.2.1
  have hp := hok.2.2.2.1
  have hp2 := hp.1
  have hp3 := hok.2.2.1
  have hs := hok.2.2.2.2.1
  have ho : Perm n od pl := hok.2.2.2.2.2.1
  obtain ⟨w, b, hwn, hbe, x4, m8, hval⟩ := both_w xw mw
  have hb : ∀ i j, i < n → j < n → b i j < p := fun i j hi hj => by rw [hbe]; exact (hs _ _ (ho i hi).1 (ho j hj).1).1
  have hlt := Bk_lt (show 0 < p by omega) hb
  have hrX : ∀ K : Int32 → jM → Prop, K (-1) (jwr IX 99 1 (IX 99 1 + 1)) → OO_inside_16 0 IX K := fun K hK => by
    unfold OO_inside_16
    exact tX_refuse (k := 1) (by omega) (by omega) m1_eq hK
  have hrM : ∀ K : Int32 → jM → Prop, K (-1) (jwr IM 105 1 (IM 105 1 + 1)) → MD_inside_16 100 IM K := fun K hK => by
    unfold MD_inside_16
    exact tM_refuse (k := 1) (by omega) (by omega) m1_eq hK
  unfold lawN_25 OO_inside
  simp only [jrs]
  rcases who a1 hn with ⟨u, hu, rfl⟩ | ⟨-, hx⟩
  · refine tX_isNobody_no hn xt.1 hu ⟨fun q => absurd rfl q, fun _ => ?_⟩
    rcases who a2 hn with ⟨c, hc', rfl⟩ | ⟨-, hx⟩
    · obtain ⟨-, -, o3, o4⟩ := ho u hu
      obtain ⟨-, -, c3, c4⟩ := ho c hc'
      rw [xt.1]
      refine tX_isNobody_no hn xt.1 hc' ⟨fun _ => t_canDivide hn hp3 hwn x4 (fun k hk => hlt k k k hk hk) (fun k hk => (hval k hk).1) (fun hw hnz => ⟨fun _ => ⟨vp_in_nI (by omega) (by omega), ?_⟩, fun q => absurd q (by decide)⟩) (fun hno => ⟨fun q => absurd rfl q, fun _ => tX_refuse (k := 5) (by omega) (by omega) m5_eq ?_⟩), fun q => absurd rfl q⟩
      · subst hw
        rw [clamp (show c < 2 ^ 31 by omega), (xr.2 c hc').2]
        refine t_takeSingle hn c3 (fun J0 j1 j2 => ?_)
        refine t_resolve (b := b) (s := fun j => if j = pl c then 1 else 0) hn1 hn hp2 hp3 (by rw [j1 1 (by omega)]; exact xt.1) (by rw [j1 2 (by omega)]; exact xt.2.1) (fun k hk => ⟨by rw [j1 95 (by omega)]; exact (hval k hk).2.1, fun i h1 h2 => by rw [j1 (70 + i) (by omega)]; exact (hval k hk).2.2.1 i h1 h2⟩) (fun j hj => by split <;> omega) j2 (fun JX k1 k2 => ?_)
        rw [clamp (show u < 2 ^ 31 by omega), k1 32 (by omega), j1 32 (by omega), (xr.2 u hu).2, clamp (show pl u < 2 ^ 31 by omega), k2 (pl u) o3]
        refine ⟨vp_in_nI (by omega) (by omega), vp_in_nI (by omega) (by omega), ?_⟩
        unfold MD_inside
        refine tM_isUnknown_yes hn mt.1 hu ⟨fun q => absurd q (by decide), fun _ => tM_isUnknown_yes hn mt.1 hc' ⟨fun _ => tM_isSolved hn hp3 (Nat.le_refl w) ho mt.1 m8 (fun k hk => hlt k k k hk hk) (fun k hk => (hval k hk).2.2.2.1) (fun _ _ => ⟨fun _ => ?_, fun q => absurd q (by decide)⟩) (fun hno => absurd ⟨rfl, hnz⟩ hno), fun q => absurd q (by decide)⟩⟩
        unfold MD_inside_38
        refine lp_n2 w (fun k v J => v = nI k ∧ (∀ x, x ≠ 116 → J x = IM x) ∧ ∀ x, x < k → J 116 x = nI (if x = c then 1 else 0)) ?_ ?_ (Nat.zero_le w) ⟨rfl, fun _ _ => rfl, fun x h => absurd h (Nat.not_lt_zero x)⟩
        · rintro k v J X hk ⟨rfl, m1, m2⟩ go
          unfold MD_inside_38b
          simp only [jrs]
          rw [clamp (show k < 2 ^ 31 by omega), m1 100 (by omega), mt.1]
          have fin : ∀ (r : Int32) (J3 : jM), r = nI (if k = c then 1 else 0) → J3 = jwr J 116 k r → X (nI k + 1, J3) := fun r J3 hr f3 => go _ _ ⟨nI_1 k, fun x hx => by rw [f3, jwr_ne hx]; exact m1 x hx, fun j hj => by
            rw [f3, jwr_at]
            by_cases e : j = k
            · subst e; rw [if_pos ⟨rfl, rfl⟩]; exact hr
            · rw [if_neg (by omega)]; exact m2 j (by omega)⟩
          exact ⟨fun q => absurd q (ge_no hk (by omega)), fun _ => ⟨fun q => ⟨vp_in_nI (by omega) (by omega), fun J3 f3 => fin 0 J3 (by rw [if_neg (fun e => q (by rw [e]))]; rfl) f3⟩, fun q => ⟨vp_in_nI (by omega) (by omega), fun J3 f3 => fin 1 J3 (by rw [if_pos ((nI_eq (by omega) (by omega)).mp q)]; rfl) f3⟩⟩⟩
        · rintro v J X ⟨rfl, m1, m2⟩
          unfold MD_inside_38b
          simp only [jrs]
          rw [m1 100 (by omega), mt.1]
          refine ⟨fun _ => tM_solveAll (b := b) (s := fun j => if j = pl c then 1 else 0) hn1 hn hp2 hp3 ho (mt.fr (by rw [m1 100 (by omega)]) (by rw [m1 100 (by omega)]) (m1 101 (by omega)) (m1 102 (by omega)) (m1 104 (by omega))) (mr.fr (m1 103 (by omega))) hb (fun k hk => ⟨hnz k hk, by rw [m1 114 (by omega)]; exact (hval k hk).2.2.2.1, fun i h1 h2 => by rw [m1 115 (by omega)]; exact (hval k hk).2.2.2.2 i h1 h2⟩) (fun j hj => by split <;> omega) (fun j hj => ?_) (fun JM e1 e2 => ⟨vp_in_nI (by omega) (by omega), ?_, ?_⟩), fun q => absurd (nI_le (Nat.le_refl w) (by omega)) q⟩
          · rw [m2 _ (ho j hj).1]
            by_cases e : j = pl c
            · rw [if_pos e, if_pos (by rw [e, c4])]
            · rw [if_neg e, if_neg (fun e2 => e (by rw [← e2, (ho j hj).2.1]))]
          · have := e2 (pl u) o3
            rw [o4] at this
            rw [clamp (show u < 2 ^ 31 by omega), this]
          · exact h.scratch2 (fun x hx => (k1 x hx).trans (j1 x hx)) (fun x hx => (e1 x hx).trans (m1 x hx))
      · unfold MD_inside
        exact tM_isUnknown_yes hn mt.1 hu ⟨fun q => absurd q (by decide), fun _ => tM_isUnknown_yes hn mt.1 hc' ⟨fun _ => tM_isSolved hn hp3 hwn ho mt.1 m8 (fun k hk => hlt k k k hk hk) (fun k hk => (hval k hk).2.2.2.1) (fun hw hnz => absurd ⟨hw, hnz⟩ hno) (fun _ => ⟨fun q => absurd rfl q, fun _ => tM_refuse (k := 5) (by omega) (by omega) m5_eq ⟨rfl, h.refuse 5 (by omega) (by omega)⟩⟩), fun q => absurd q (by decide)⟩⟩
    · refine tX_isNobody_yes xt.1 hx ⟨fun q => absurd q (by decide), fun _ => hrX _ ?_⟩
      unfold MD_inside
      refine tM_isUnknown_yes hn mt.1 hu ⟨fun q => absurd q (by decide), fun _ => tM_isUnknown_no hn1 hn mt.1 hx ⟨fun q => absurd rfl q, fun _ => hrM _ ⟨rfl, h.refuse 1 (by omega) (by omega)⟩⟩⟩
  · refine tX_isNobody_yes xt.1 hx ⟨fun _ => hrX _ ?_, fun q => absurd q (by decide)⟩
    unfold MD_inside
    exact tM_isUnknown_no hn1 hn mt.1 hx ⟨fun _ => hrM _ ⟨rfl, h.refuse 1 (by omega) (by omega)⟩, fun q => absurd rfl q⟩
