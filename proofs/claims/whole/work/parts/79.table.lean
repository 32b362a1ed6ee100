/-! ===== table, and the fresh objects ===== -/
theorem t_isPrime {I : jM} {p : Nat} (hp : 2 ≤ p) (hp2 : p ≤ 32749) {K : Int32 → Prop} (h1 : isP p → K 1) (h0 : ¬ isP p → K 0) : MO_isPrime (nI p) I K := by
  unfold MO_isPrime MO_isPrime_2
  refine lp_i (fun s : Int32 => ∃ d, s = nI d ∧ 2 ≤ d ∧ d ≤ 200 ∧ ∀ e, 2 ≤ e → e < d → p % e ≠ 0) (fun s => 200 - s.toNatClampNeg) ?_ ⟨2, rfl, by omega, by omega, fun e h1 h2 => by omega⟩
  rintro s X ⟨d, rfl, hd, hd2, hpre⟩ ih
  unfold MO_isPrime_2b
  have hne : ¬ nI d = 0 := nI_ne0 (by omega) (by omega)
  rw [pk_div (by omega) (by omega) (by omega)]
  have hdl : p / d ≤ p := Nat.div_le_self _ _
  refine ⟨hne, fun q => ⟨fun q2 => absurd q2 (nI_ge (a := 1) (by omega) (by omega)), fun _ => h1 ⟨hp, fun e he hee => ?_⟩⟩, fun q => ⟨hne, fun q2 => ?_, fun q2 => h0 (fun hP => ?_)⟩⟩
  · have q3 : p / d < d := (nI_ltI (by omega) (by omega)).mp q
    rw [Nat.div_lt_iff_lt_mul (by omega)] at q3
    exact hpre e he (by
      apply Nat.lt_of_not_le
      intro hc
      have := Nat.mul_le_mul hc hc
      omega)
  · have q3 : ¬ p / d < d := fun hh => q ((nI_ltI (by omega) (by omega)).mpr hh)
    rw [Nat.div_lt_iff_lt_mul (by omega)] at q3
    have hd3 : d < 200 := by
      apply Nat.lt_of_not_le
      intro hc
      have := Nat.mul_le_mul hc hc
      omega
    have hm : p % d ≠ 0 := fun e => q2 (by
      have := pk_rem (a := p) (d := d) (by omega) (by omega) (by omega)
      rw [pk_div (by omega) (by omega) (by omega)] at this
      rw [this, e]; rfl)
    rw [show nI d + 1 = nI (d + 1) from nI_1 d]
    refine ih _ ⟨d + 1, rfl, by omega, by omega, fun e h1 h2 => ?_⟩ ?_
    · by_cases he : e = d
      · subst he; exact hm
      · exact hpre e h1 (by omega)
    · rw [clamp (by omega), clamp (by omega)]; omega
  · have q3 : ¬ p / d < d := fun hh => q ((nI_ltI (by omega) (by omega)).mpr hh)
    rw [Nat.div_lt_iff_lt_mul (by omega)] at q3
    have hr := pk_rem (a := p) (d := d) (by omega) (by omega) (by omega)
    rw [pk_div (by omega) (by omega) (by omega)] at hr
    rw [hr] at q2
    have hml := Nat.mod_lt p (show 0 < d by omega)
    exact hP.2 d hd (by omega) ((nI_eq (by omega) (by omega)).mp q2)
theorem t_clear {I : jM} {n p : Nat} {K : jM → Prop} (hK : ∀ J : jM, (∀ x, x = 0 ∨ 30 ≤ x → J x = I x) → J 1 4 = nI n → J 2 0 = nI p → J 1 5 = 0 → (∀ u, u < 24 → J 28 u = 0 ∧ J 29 u = 0 ∧ ∀ w, w < 24 → J (4 + u) w = 0) → K J) : TA_clear 1 (nI n) (nI p) I K := by
  unfold TA_clear
  simp only [jrs]
  intro I1 e1 I2 e2 I3 e3
  have b1 : I3 1 4 = nI n := by rw [e3, jwr_at, if_neg (by omega), e2, jwr_ne (by omega), e1, jwr_at, if_pos ⟨rfl, rfl⟩]
  have b2 : I3 2 0 = nI p := by rw [e3, jwr_ne (by omega), e2, jwr_at, if_pos ⟨rfl, rfl⟩]
  have b3 : I3 1 5 = 0 := by rw [e3, jwr_at, if_pos ⟨rfl, rfl⟩]
  have b4 : ∀ x, x ≠ 1 → x ≠ 2 → I3 x = I x := fun x h1 h2 => by rw [e3, jwr_ne h1, e2, jwr_ne h2, e1, jwr_ne h1]
  unfold TA_clear_20
  refine lp_n2 24 (fun k v J => v = nI k ∧ (∀ x, x ≤ 2 ∨ 30 ≤ x → J x = I3 x) ∧ ∀ u, u < k → J 28 u = 0 ∧ J 29 u = 0 ∧ ∀ w, w < 24 → J (4 + u) w = 0) ?_ ?_ (Nat.zero_le _) ⟨rfl, fun _ _ => rfl, fun u h => absurd h (Nat.not_lt_zero u)⟩
  · rintro k v J X hk ⟨rfl, j1, j2⟩ go
    unfold TA_clear_20b
    dsimp only
    simp only [jrs]
    have hi : vp_in (nI k) 24 := vp_in_nI hk (by omega)
    refine ⟨fun q => absurd q (nI_ge (a := k) (b := 24) hk (by omega)), fun _ => ⟨hi, fun J1 f1 => ⟨hi, fun J2 f2 => ?_⟩⟩⟩
    rw [clamp (by omega)] at f1 f2
    unfold TA_clear_43
    refine lp_n2 24 (fun m v J3 => v = nI m ∧ (∀ x, x ≠ 4 + k → J3 x = J2 x) ∧ ∀ w, w < m → J3 (4 + k) w = 0) ?_ ?_ (Nat.zero_le _) ⟨rfl, fun _ _ => rfl, fun w h => absurd h (Nat.not_lt_zero w)⟩
    · rintro m v J3 X3 hm ⟨rfl, m1, m2⟩ go3
      unfold TA_clear_43b
      dsimp only
      simp only [jrs, jws3]
      refine ⟨fun q => absurd q (nI_ge (a := m) (b := 24) hm (by omega)), fun _ => ⟨hi, vp_in_nI hm (by omega), fun J4 f4 => go3 _ _ ⟨nI_1 m, fun x hx => ?_, fun w hw => ?_⟩⟩⟩
      · rw [clamp (by omega)] at f4
        rw [f4, jwr_ne hx]; exact m1 x hx
      · rw [f4, clamp (by omega), clamp (by omega), jwr_at]
        by_cases e : w = m
        · rw [if_pos ⟨rfl, e⟩]
        · rw [if_neg (by omega)]; exact m2 w (by omega)
    · rintro v J3 X3 ⟨rfl, m1, m2⟩
      unfold TA_clear_43b
      dsimp only
      refine ⟨fun _ => go _ _ ⟨nI_1 k, fun x hx => ?_, fun u hu => ?_⟩, fun q => absurd (nI_le (a := 24) (b := 24) (Nat.le_refl _) (by omega)) q⟩
      · rw [m1 x (by omega), f2, jwr_ne (by omega), f1, jwr_ne (by omega)]; exact j1 x hx
      · rw [m1 28 (by omega), m1 29 (by omega), f2, jwr_ne (show (28 : Nat) ≠ 29 by omega), jwr_at, f1, jwr_at, jwr_ne (show (29 : Nat) ≠ 28 by omega)]
        by_cases e : u = k
        · subst e
          rw [if_pos ⟨rfl, rfl⟩, if_pos ⟨rfl, rfl⟩]
          exact ⟨rfl, rfl, m2⟩
        · rw [if_neg (by omega), if_neg (by omega)]
          obtain ⟨q1, q2, q3⟩ := j2 u (by omega)
          refine ⟨q1, q2, fun w hw => ?_⟩
          rw [m1 (4 + u) (by omega), f2, jwr_ne (by omega), f1, jwr_ne (by omega)]
          exact q3 w hw
  · rintro v J X ⟨rfl, j1, j2⟩
    unfold TA_clear_20b
    dsimp only
    refine ⟨fun _ => hK J (fun x hx => by rw [j1 x (by omega), b4 x (by omega) (by omega)]) (by rw [j1 1 (by omega)]; exact b1) (by rw [j1 2 (by omega)]; exact b2) (by rw [j1 1 (by omega)]; exact b3) j2, fun q => absurd (nI_le (a := 24) (b := 24) (Nat.le_refl _) (by omega)) q⟩
theorem t_byNumbers {I : jM} {n : Nat} (hn : n ≤ 24) {K : jM → Prop} (hK : ∀ J : jM, (∀ x, x < 30 ∨ 32 < x → J x = I x) → XR n (fun i => i) (fun i => i) J → K J) : RO_byNumbers 30 (nI n) I K := by
  unfold RO_byNumbers RO_byNumbers_7
  intro I1 e1
  refine lp_n2 n (fun k v J => v = nI k ∧ J 30 = I1 30 ∧ (∀ x, x < 30 ∨ 32 < x → J x = I x) ∧ ∀ i, i < k → J 31 i = nI i ∧ J 32 i = nI i) ?_ ?_ (Nat.zero_le _) ⟨rfl, rfl, fun x hx => by rw [e1, jwr_ne (by omega)], fun i h => absurd h (Nat.not_lt_zero i)⟩
  · rintro k v J X hk ⟨rfl, j0, j1, j2⟩ go
    unfold RO_byNumbers_7b RO_set
    dsimp only
    simp only [jrs]
    have hi : vp_in (nI k) 24 := vp_in_nI (by omega) (by omega)
    have e2 : J 30 2 = nI n := by rw [j0, e1, jwr_at, if_pos ⟨rfl, rfl⟩]
    rw [e2]
    refine ⟨fun q => absurd q (ge_no hk (by omega)), fun _ => ⟨hi, fun J1 f1 => ⟨hi, fun J2 f2 => go _ _ ⟨nI_1 k, ?_, fun x hx => ?_, fun i hik => ?_⟩⟩⟩⟩
    · rw [f2, jwr_ne (by omega), f1, jwr_ne (by omega)]; exact j0
    · rw [f2, jwr_ne (by omega), f1, jwr_ne (by omega)]; exact j1 x hx
    · rw [clamp (by omega)] at f1 f2
      rw [f2, jwr_ne (show (31 : Nat) ≠ 32 by omega), jwr_at, f1, jwr_at, jwr_ne (show (32 : Nat) ≠ 31 by omega)]
      by_cases e : i = k
      · subst e; rw [if_pos ⟨rfl, rfl⟩, if_pos ⟨rfl, rfl⟩]; exact ⟨rfl, rfl⟩
      · rw [if_neg (by omega), if_neg (by omega)]; exact j2 i (by omega)
  · rintro v J X ⟨rfl, j0, j1, j2⟩
    unfold RO_byNumbers_7b
    dsimp only
    have e2 : J 30 2 = nI n := by rw [j0, e1, jwr_at, if_pos ⟨rfl, rfl⟩]
    rw [e2]
    exact ⟨fun _ => hK J j1 ⟨e2, j2⟩, fun q => absurd (nI_le (Nat.le_refl _) (by omega)) q⟩
theorem adj_zero (n u i : Nat) : adj n (fun _ _ => 0) u i = false := by unfold adj; simp
theorem t_startAnew {I : jM} {n p : Nat} (hn : n ≤ 24) {K : jM → Prop} (hK : ∀ J : jM, J 99 = I 99 → XT n p (fun _ _ => 0) (fun _ => false) (fun _ => 0) J → XR n (fun i => i) (fun i => i) J → J 0 9 = 0 → J 0 10 = 0 → XG n (fun _ _ => 0) [] J → J 68 4 = 0 → J 68 5 = -1 → K J) : OO_startAnew 0 (nI n) (nI p) I K := by
  unfold OO_startAnew
  simp only [jrs]
  refine t_clear (fun J1 a1 b1 b2 b3 b4 => t_byNumbers hn (fun J2 a2 xr => ?_))
  have xt : XT n p (fun _ _ => 0) (fun _ => false) (fun _ => 0) J2 := by
    refine ⟨by rw [a2 1 (by omega)]; exact b1, by rw [a2 2 (by omega)]; exact b2, fun u w hu hw => by rw [a2 (4 + u) (by omega)]; exact (b4 u (by omega)).2.2 w (by omega), fun u hu => ?_, ?_, fun u hu => by rw [a2 29 (by omega)]; exact (b4 u (by omega)).2.1⟩
    · rw [a2 28 (by omega), (b4 u (by omega)).1, ← mk_nil]
      exact mk_ext (fun i _ => (adj_zero n u i).symm)
    · rw [a2 1 (by omega), b3, ← mk_nil]
      exact mk_ext (fun i _ => by simp)
  refine t_numbersChanged hn xt (fun J3 a3 x9 x10 xg w4 w5 => hK J3 ?_ (xt.fr (fun c _ _ => a3 c (by omega) (by omega)) hn) (xr.fr (fun c _ _ => a3 c (by omega) (by omega))) x9 x10 xg w4 w5)
  rw [a3 99 (by omega) (by omega), a2 99 (by omega), a1 99 (by omega)]
theorem OKs.fresh {n p : Nat} (h1 : 1 ≤ n) (h2 : n ≤ 24) (h3 : p ≤ 32749) (h4 : isP p) : OKs n p (fun _ _ => 0) (fun i => i) (fun i => i) (fun _ => 0) [] := ⟨h1, h2, h3, h4, fun _ _ _ _ => ⟨Nat.lt_of_lt_of_le (by decide : 0 < 2) h4.1, rfl⟩, fun i hi => ⟨hi, rfl, hi, rfl⟩, fun _ _ => Nat.lt_of_lt_of_le (by decide : 0 < 2) h4.1, List.nodup_nil, fun u hu => by cases hu⟩
theorem tM_tableTail {I : jM} {n p : Nat} (hn : n ≤ 24) (h0 : I 100 0 = nI n) (h1 : I 100 1 = nI p) (hp : 2 ≤ p) {K : Int32 → jM → Prop} (hK : ∀ J : jM, J 105 = I 105 → MT n p (fun _ _ => 0) (fun _ => false) (fun _ => 0) J → MR n (fun i => i) J → MG n (fun _ _ => 0) [] J → J 100 18 = 0 → J 100 19 = -9 → J 100 13 = -1 → K 1 J) : MD_table_77 100 0 I K := by
  unfold MD_table_77
  refine lp_n2 576 (fun k v J => v = nI k ∧ (∀ x, x ≠ 101 → J x = I x) ∧ ∀ j, j < k → J 101 j = 0) ?_ ?_ (Nat.zero_le _) ⟨rfl, fun _ _ => rfl, fun j h => absurd h (Nat.not_lt_zero j)⟩
  · rintro k v J X hk ⟨rfl, j1, j2⟩ go
    unfold MD_table_77b
    dsimp only
    simp only [jrs]
    refine ⟨fun q => absurd q (nI_ge (a := k) (b := 576) hk (by omega)), fun _ => ⟨vp_in_nI hk (by omega), fun J1 f1 => go _ _ ⟨nI_1 k, fun x hx => by rw [f1, jwr_ne hx]; exact j1 x hx, fun j hj => ?_⟩⟩⟩
    rw [f1, clamp (by omega), jwr_at]
    by_cases e : j = k
    · rw [if_pos ⟨rfl, e⟩]
    · rw [if_neg (by omega)]; exact j2 j (by omega)
  · rintro v J X ⟨rfl, j1, j2⟩
    unfold MD_table_77b
    dsimp only
    refine ⟨fun _ => ?_, fun q => absurd (nI_le (a := 576) (b := 576) (Nat.le_refl _) (by omega)) q⟩
    unfold MD_table_99
    refine lp_n2 24 (fun k v J2 => v = nI k ∧ (∀ x, x ≠ 102 → x ≠ 103 → x ≠ 104 → J2 x = J x) ∧ ∀ u, u < k → J2 102 u = 0 ∧ J2 103 u = nI u ∧ J2 104 u = 0) ?_ ?_ (Nat.zero_le _) ⟨rfl, fun _ _ _ _ => rfl, fun j h => absurd h (Nat.not_lt_zero j)⟩
    · rintro k v J2 X2 hk ⟨rfl, k1, k2⟩ go
      unfold MD_table_99b
      dsimp only
      simp only [jrs]
      have hi : vp_in (nI k) 24 := vp_in_nI hk (by omega)
      refine ⟨fun q => absurd q (nI_ge (a := k) (b := 24) hk (by omega)), fun _ => ⟨hi, fun J3 f3 => ⟨hi, fun J4 f4 => ⟨hi, fun J5 f5 => go _ _ ⟨nI_1 k, fun x h2 h3 h4 => ?_, fun u hu => ?_⟩⟩⟩⟩⟩
      · rw [f5, jwr_ne h4, f4, jwr_ne h3, f3, jwr_ne h2]; exact k1 x h2 h3 h4
      · rw [clamp (by omega)] at f3 f4 f5
        rw [f5, jwr_ne (show (102 : Nat) ≠ 104 by omega), jwr_ne (show (103 : Nat) ≠ 104 by omega), jwr_at, f4, jwr_ne (show (102 : Nat) ≠ 103 by omega), jwr_at, jwr_ne (show (104 : Nat) ≠ 103 by omega), f3, jwr_at, jwr_ne (show (103 : Nat) ≠ 102 by omega), jwr_ne (show (104 : Nat) ≠ 102 by omega)]
        by_cases e : u = k
        · subst e
          rw [if_pos ⟨rfl, rfl⟩, if_pos ⟨rfl, rfl⟩, if_pos ⟨rfl, rfl⟩]
          exact ⟨by decide, rfl, rfl⟩
        · rw [if_neg (by omega), if_neg (by omega), if_neg (by omega)]
          exact k2 u (by omega)
    · rintro v J2 X2 ⟨rfl, k1, k2⟩
      unfold MD_table_99b
      dsimp only
      refine ⟨fun _ => ?_, fun q => absurd (nI_le (a := 24) (b := 24) (Nat.le_refl _) (by omega)) q⟩
      refine tM_notWorked (fun J3 l1 l2 l8 l9 J4 f4 => ?_)
      have g1 : ∀ x, x ≠ 100 → J4 x = J2 x := fun x hx => by rw [f4, jwr_ne hx, l1 x hx]
      have g2 : ∀ k, k ≠ 13 → k ≠ 18 → k ≠ 19 → J4 100 k = I 100 k := fun k q1 q2 q3 => by rw [f4, jwr_at, if_neg (by omega), l2 k q2 q3, k1 100 (by omega) (by omega) (by omega), j1 100 (by omega)]
      have mt : MT n p (fun _ _ => 0) (fun _ => false) (fun _ => 0) J4 := ⟨by rw [g2 0 (by omega) (by omega) (by omega)]; exact h0, by rw [g2 1 (by omega) (by omega) (by omega)]; exact h1, fun u w hu hw => by rw [g1 101 (by omega), k1 101 (by omega) (by omega) (by omega)]; exact j2 _ (by omega), fun u hu => by rw [g1 102 (by omega)]; exact (k2 u (by omega)).1, fun u hu => by rw [g1 104 (by omega)]; exact (k2 u (by omega)).2.2⟩
      refine tM_begin hn mt (fun _ _ _ _ => by decide) (fun J5 eM eM0 mg => hK J5 ?_ (mt.fr (eM0 0 (by omega)) (eM0 1 (by omega)) (eM 101 (by omega) (by omega) (by omega)) (eM 102 (by omega) (by omega) (by omega)) (eM 104 (by omega) (by omega) (by omega))) (fun i hi => ?_) mg ?_ ?_ ?_)
      · rw [eM 105 (by omega) (by omega) (by omega), g1 105 (by omega), k1 105 (by omega) (by omega) (by omega), j1 105 (by omega)]
      · rw [eM 103 (by omega) (by omega) (by omega), g1 103 (by omega)]; exact (k2 i (by omega)).2.1
      · rw [eM0 18 (by omega), f4, jwr_at, if_neg (by omega)]; exact l8
      · rw [eM0 19 (by omega), f4, jwr_at, if_neg (by omega)]; exact l9
      · rw [eM0 13 (by omega), f4, jwr_at, if_pos ⟨rfl, rfl⟩]
