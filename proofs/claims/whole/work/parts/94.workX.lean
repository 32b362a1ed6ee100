/-! ===== WORK, the class's side ===== -/
theorem Bk_succ (p : Nat) (b : Nat → Nat → Nat) (k i j : Nat) : Bk p b (k + 1) i j = md p ((Bk p b k i j : Int) - ((Bk p b k i k * on1 p b j k : Nat) : Int)) := rfl
theorem Bk_lt {p n : Nat} {b : Nat → Nat → Nat} (hp : 0 < p) (hb : ∀ i j, i < n → j < n → b i j < p) : ∀ k i j, i < n → j < n → Bk p b k i j < p
  | 0, i, j, hi, hj => hb i j hi hj
  | k + 1, i, j, _, _ => by rw [Bk_succ]; exact md_lt hp _
theorem on1_lt {p : Nat} (hp : 0 < p) (b : Nat → Nat → Nat) (i k : Nat) : on1 p b i k < p := Nat.mod_lt _ hp
theorem on1_zero {p : Nat} {b : Nat → Nat → Nat} {k : Nat} (h : Bk p b k k k = 0) (i : Nat) : on1 p b i k = 0 := by
  unfold on1 iv
  rw [if_pos h, Nat.mul_zero, Nat.zero_mod]
theorem Bk_zero {p n : Nat} {b : Nat → Nat → Nat} (hp : 0 < p) (hb : ∀ i j, i < n → j < n → b i j < p) {k i j : Nat} (h : Bk p b k k k = 0) (hi : i < n) (hj : j < n) : Bk p b (k + 1) i j = Bk p b k i j := by
  rw [Bk_succ, on1_zero h, Nat.mul_zero]
  have := md_small (Bk_lt hp hb k i j hi hj)
  simpa using this
theorem stk_iff {p n k : Nat} {b : Nat → Nat → Nat} : stk p b n k = true ↔ Bk p b k k k = 0 ∧ ∃ i, k < i ∧ i < n ∧ Bk p b k i k ≠ 0 := by
  unfold stk
  rw [Bool.and_eq_true, decide_eq_true_eq, List.any_eq_true]
  constructor
  · rintro ⟨h1, i, hi, h2⟩
    rw [Bool.and_eq_true, decide_eq_true_eq, Bool.not_eq_true', decide_eq_false_iff_not] at h2
    exact ⟨h1, i, h2.1, List.mem_range.mp hi, h2.2⟩
  · rintro ⟨h1, i, h2, h3, h4⟩
    exact ⟨h1, i, List.mem_range.mpr h3, by simp [h2, h4]⟩
theorem stk_no {p n k : Nat} {b : Nat → Nat → Nat} (h : ¬ (Bk p b k k k = 0 ∧ ∃ i, k < i ∧ i < n ∧ Bk p b k i k ≠ 0)) : stk p b n k = false := by
  cases hh : stk p b n k with
  | true => exact absurd (stk_iff.mp hh) h
  | false => rfl
/-- the class's rows when k columns are through -/
def WX (n p : Nat) (b : Nat → Nat → Nat) (k : Nat) (I : jM) : Prop := ∀ i j, i < n → j ≤ i → (k ≤ j → I (70 + i) j = nI (Bk p b k i j)) ∧ (j < k → j < i → I (70 + i) j = nI (on1 p b i j))
theorem WX.fr {n p k : Nat} {b : Nat → Nat → Nat} {I J : jM} (hn : n ≤ 24) (h : WX n p b k I) (e : ∀ x, 70 ≤ x → x ≤ 93 → J x = I x) : WX n p b k J := fun i j hi hj => by
  rw [e (70 + i) (by omega) (by omega)]
  exact h i j hi hj
theorem t_takeNumbers {n p : Nat} {a : Nat → Nat → Nat} {hd : Nat → Bool} {od pl sd : Nat → Nat} {I : jM} (hn : n ≤ 24) (ho : ∀ i, i < n → od i < n) (xt : XT n p a hd sd I) (xr : XR n od pl I) {K : jM → Prop} (hK : ∀ J : jM, (∀ x, x < 70 ∨ 93 < x → J x = I x) → WX n p (fun i j => a (od i) (od j)) 0 J → K J) : WO_takeNumbers 68 1 30 I K := by
  unfold WO_takeNumbers WO_takeNumbers_2
  refine lp_n2 n (fun k v J => v = nI k ∧ (∀ x, x < 70 ∨ 93 < x → J x = I x) ∧ ∀ i j, i < k → j ≤ i → J (70 + i) j = nI (a (od i) (od j))) ?_ ?_ (Nat.zero_le n) ⟨rfl, fun _ _ => rfl, fun i j h => absurd h (Nat.not_lt_zero i)⟩
  · rintro k v J X hk ⟨rfl, j1, j2⟩ go
    unfold WO_takeNumbers_2b
    dsimp only
    rw [j1 1 (by omega), xt.1]
    refine ⟨fun q => absurd q (ge_no hk (by omega)), fun _ => ?_⟩
    unfold WO_takeNumbers_13
    refine lp_n2 (k + 1) (fun m v J2 => v = nI m ∧ (∀ x, x < 70 ∨ 93 < x → J2 x = I x) ∧ (∀ i j, i < k → j ≤ i → J2 (70 + i) j = nI (a (od i) (od j))) ∧ ∀ j, j < m → J2 (70 + k) j = nI (a (od k) (od j))) ?_ ?_ (Nat.zero_le _) ⟨rfl, j1, j2, fun j h => absurd h (Nat.not_lt_zero j)⟩
    · rintro m v J2 X2 hm ⟨rfl, m1, m2, m3⟩ go2
      have h1 := ho k hk
      have h2 := ho m (by omega)
      unfold WO_takeNumbers_13b
      dsimp only
      simp only [jrs, jws3, jws69]
      rw [clamp (show k < 2 ^ 31 by omega), clamp (show m < 2 ^ 31 by omega), m1 31 (by omega), (xr.2 k hk).1, (xr.2 m (by omega)).1, clamp (show od k < 2 ^ 31 by omega), clamp (show od m < 2 ^ 31 by omega)]
      refine ⟨fun q => absurd q (nI_nlt (by omega) (by omega)), fun _ => ⟨vp_in_nI (by omega) (by omega), vp_in_nI (by omega) (by omega), vp_in_nI (by omega) (by omega), vp_in_nI (by omega) (by omega), vp_in_nI (by omega) (by omega), vp_in_nI (by omega) (by omega), fun J3 f3 => go2 _ _ ⟨nI_1 m, fun x hx => ?_, fun i j hi hj => ?_, fun j hj => ?_⟩⟩⟩
      · rw [f3, jwr_ne (by omega)]; exact m1 x hx
      · rw [f3, jwr_ne (by omega)]; exact m2 i j hi hj
      · rw [f3, jwr_at]
        by_cases e : j = m
        · subst e
          rw [if_pos ⟨rfl, rfl⟩, m1 (4 + od k) (by omega)]
          exact xt.2.2.1 _ _ h1 h2
        · rw [if_neg (by omega)]; exact m3 j (by omega)
    · rintro v J2 X2 ⟨rfl, m1, m2, m3⟩
      unfold WO_takeNumbers_13b
      dsimp only
      refine ⟨fun _ => go _ _ ⟨nI_1 k, m1, fun i j hi hj => ?_⟩, fun q => absurd (nI_lt (by omega) (by omega)) q⟩
      by_cases e : i = k
      · subst e; exact m3 j (by omega)
      · exact m2 i j (by omega) hj
  · rintro v J X ⟨rfl, j1, j2⟩
    unfold WO_takeNumbers_2b
    dsimp only
    rw [j1 1 (by omega), xt.1]
    exact ⟨fun _ => hK J j1 (fun i j hi hj => ⟨fun _ => j2 i j hi hj, fun h => absurd h (Nat.not_lt_zero j)⟩), fun q => absurd (nI_le (Nat.le_refl n) (by omega)) q⟩
section WS
variable {n p k : Nat} {b : Nat → Nat → Nat} {I : jM}
theorem t_hasRest (hn : n ≤ 24) (hp2 : 2 ≤ p) (hp : p ≤ 32749) (hb : ∀ i j, i < n → j < n → b i j < p) (hk : k < n) (wx : WX n p b k I) {K : Int32 → Prop} (h1 : (∃ i, k < i ∧ i < n ∧ Bk p b k i k ≠ 0) → K 1) (h0 : ¬ (∃ i, k < i ∧ i < n ∧ Bk p b k i k ≠ 0) → K 0) : WO_hasRest 68 (nI k) (nI n) I K := by
  unfold WO_hasRest
  intro v ev
  rw [nI_1] at ev
  subst ev
  unfold WO_hasRest_4
  refine lp_n n (fun m (s : Int32) => s = nI m ∧ k < m ∧ ∀ i, k < i → i < m → Bk p b k i k = 0) ?_ ?_ (show k + 1 ≤ n by omega) ⟨rfl, by omega, fun i q1 q2 => absurd q2 (by omega)⟩
  · rintro m s X hm ⟨rfl, hkm, hz⟩ go
    unfold WO_hasRest_4b
    simp only [jrs, jws69]
    rw [clamp (show m < 2 ^ 31 by omega), clamp (show k < 2 ^ 31 by omega), (wx m k hm (by omega)).1 (Nat.le_refl k)]
    refine ⟨fun q => absurd q (ge_no hm (by omega)), fun _ => ⟨vp_in_nI (by omega) (by omega), vp_in_nI (by omega) (by omega), fun q => go _ ⟨nI_1 m, by omega, fun i q1 q2 => ?_⟩, fun q => h1 ⟨m, hkm, hm, fun e => q (by rw [e]; rfl)⟩⟩⟩
    by_cases e : i = m
    · subst e
      have := Bk_lt (by omega) hb k i k hm hk
      exact (nI_eq (by omega) (by omega)).mp q
    · exact hz i q1 (by omega)
  · rintro s X ⟨rfl, hkm, hz⟩
    unfold WO_hasRest_4b
    exact ⟨fun _ => h0 (fun ⟨i, q1, q2, q3⟩ => q3 (hz i q1 q2)), fun q => absurd (nI_le (Nat.le_refl n) (by omega)) q⟩
theorem t_eliminate (hn : n ≤ 24) (hp2 : 2 ≤ p) (hp : p ≤ 32749) (hb : ∀ i j, i < n → j < n → b i j < p) (hk : k < n) (e2 : I 2 0 = nI p) (wx : WX n p b k I) (hi : I 95 k = nI (iv p (Bk p b k k k))) {K : jM → Prop} (hK : ∀ J : jM, (∀ x, x < 70 ∨ 93 < x → J x = I x) → WX n p b (k + 1) J → K J) : WO_eliminate 68 (nI k) (nI n) 2 I K := by
  unfold WO_eliminate
  intro v ev
  rw [nI_1] at ev
  subst ev
  unfold WO_eliminate_5
  refine lp_n2 n (fun m v J => v = nI m ∧ k < m ∧ (∀ x, x < 70 ∨ 93 < x → J x = I x) ∧ (∀ i j, i < m → j ≤ i → (k + 1 ≤ j → J (70 + i) j = nI (Bk p b (k + 1) i j)) ∧ (j < k + 1 → j < i → J (70 + i) j = nI (on1 p b i j))) ∧ ∀ i, m ≤ i → i < n → J (70 + i) = I (70 + i)) ?_ ?_ (show k + 1 ≤ n by omega) ⟨rfl, by omega, fun _ _ => rfl, fun i j hi hj => ⟨fun h => absurd h (by omega), fun h1 h2 => (wx i j (by omega) hj).2 (by omega) h2⟩, fun _ _ _ => rfl⟩
  · rintro m v J X hm ⟨rfl, hkm, j1, j2, j3⟩ go
    have hR := Bk_lt (show 0 < p by omega) hb k m k hm hk
    unfold WO_eliminate_5b
    simp only [jrs, jws69]
    rw [clamp (show m < 2 ^ 31 by omega), clamp (show k < 2 ^ 31 by omega), j3 m (Nat.le_refl m) hm, (wx m k hm (by omega)).1 (Nat.le_refl k), j1 95 (by omega), hi]
    refine ⟨fun q => absurd q (ge_no hm (by omega)), fun _ => ⟨vp_in_nI (by omega) (by omega), vp_in_nI (by omega) (by omega), fun r er => ⟨vp_in_nI (by omega) (by omega), vp_in_nI (by omega) (by omega), ?_⟩⟩⟩
    subst er
    refine t_times hp2 hp (by rw [j1 2 (by omega)]; exact e2) hR (iv_lt (by omega)) ⟨vp_in_nI (by omega) (by omega), fun J2 f2 v6 e6 => ?_⟩
    rw [nI_1] at e6
    subst e6
    unfold WO_eliminate_48
    refine lp_n2 (m + 1) (fun q v J3 => v = nI q ∧ k < q ∧ (∀ x, x ≠ 70 + m → J3 x = J x) ∧ (∀ j, j < k → J3 (70 + m) j = I (70 + m) j) ∧ J3 (70 + m) k = nI (on1 p b m k) ∧ (∀ j, k < j → j < q → J3 (70 + m) j = nI (Bk p b (k + 1) m j)) ∧ ∀ j, q ≤ j → J3 (70 + m) j = I (70 + m) j) ?_ ?_ (show k + 1 ≤ m + 1 by omega) ⟨rfl, by omega, fun x hx => by rw [f2, jwr_ne hx], fun j hj => by rw [f2, jwr_at, if_neg (by omega), j3 m (Nat.le_refl m) hm], by rw [f2, jwr_at, if_pos ⟨rfl, rfl⟩]; rfl, fun j h1 h2 => absurd h2 (by omega), fun j hj => by rw [f2, jwr_at, if_neg (by omega), j3 m (Nat.le_refl m) hm]⟩
    · rintro q v J3 X2 hq ⟨rfl, hkq, q1, q2, q3, q4, q5⟩ go2
      have hO : J3 (70 + q) k = nI (on1 p b q k) := by
        by_cases e : q = m
        · rw [e]; exact q3
        · rw [q1 (70 + q) (by omega)]; exact (j2 q k (by omega) (by omega)).2 (by omega) hkq
      have hA := Bk_lt (show 0 < p by omega) hb k m q hm (by omega)
      have hOl := on1_lt (show 0 < p by omega) b q k
      have hRO : Bk p b k m k * on1 p b q k < 2 ^ 30 := Nat.lt_of_le_of_lt (Nat.mul_le_mul (show Bk p b k m k ≤ 32748 by omega) (show on1 p b q k ≤ 32748 by omega)) (by decide)
      unfold WO_eliminate_48b
      simp only [jrs, jws69]
      rw [clamp (show m < 2 ^ 31 by omega), clamp (show q < 2 ^ 31 by omega), clamp (show k < 2 ^ 31 by omega), q5 q (Nat.le_refl q), (wx m q hm (by omega)).1 (by omega), hO, pk_mul]
      refine ⟨fun h => absurd h (nI_nlt (by omega) (by omega)), fun _ => ⟨vp_in_nI (by omega) (by omega), vp_in_nI (by omega) (by omega), vp_in_nI (by omega) (by omega), vp_in_nI (by omega) (by omega), vp_in_nI (by omega) (by omega), t_reduce hp2 (by omega) (by rw [q1 2 (by omega), j1 2 (by omega)]; exact e2) _ ⟨vp_in_nI (by omega) (by omega), fun J4 f4 => ?_⟩⟩⟩
      rw [pk_sub_toInt (by omega) hRO, ← Bk_succ] at f4
      refine go2 _ _ ⟨nI_1 q, by omega, fun x hx => by rw [f4, jwr_ne hx]; exact q1 x hx, fun j hj => ?_, ?_, fun j h1 h2 => ?_, fun j hj => ?_⟩
      · rw [f4, jwr_at, if_neg (by omega)]; exact q2 j hj
      · rw [f4, jwr_at, if_neg (by omega)]; exact q3
      · rw [f4, jwr_at]
        by_cases e : j = q
        · subst e; rw [if_pos ⟨rfl, rfl⟩]
        · rw [if_neg (by omega)]; exact q4 j h1 (by omega)
      · rw [f4, jwr_at, if_neg (by omega)]; exact q5 j (by omega)
    · rintro v J3 X2 ⟨rfl, hkq, q1, q2, q3, q4, q5⟩
      unfold WO_eliminate_48b
      dsimp only
      refine ⟨fun _ => go _ _ ⟨nI_1 m, by omega, fun x hx => (q1 x (by omega)).trans (j1 x hx), fun i j hi hj => ?_, fun i h1 h2 => (q1 _ (by omega)).trans (j3 i (by omega) h2)⟩, fun h => absurd (nI_lt (by omega) (by omega)) h⟩
      by_cases e : i = m
      · subst e
        refine ⟨fun h => q4 j (by omega) (by omega), fun h1 h2 => ?_⟩
        by_cases e2 : j = k
        · rw [e2]; exact q3
        · rw [q2 j (by omega)]; exact (wx i j hm hj).2 (by omega) h2
      · rw [q1 (70 + i) (by omega)]; exact j2 i j (by omega) hj
  · rintro v J X ⟨rfl, hkm, j1, j2, j3⟩
    unfold WO_eliminate_5b
    dsimp only
    exact ⟨fun _ => hK J j1 (fun i j hi hj => j2 i j hi hj), fun q => absurd (nI_le (Nat.le_refl n) (by omega)) q⟩
end WS
theorem t_workX {n p : Nat} {a : Nat → Nat → Nat} {hd : Nat → Bool} {od pl sd : Nat → Nat} {I : jM} (hn : n ≤ 24) (hp2 : 2 ≤ p) (hp : p ≤ 32749) (hs : ∀ u w, u < n → w < n → a u w < p ∧ a u w = a w u) (ho : Perm n od pl) (xt : XT n p a hd sd I) (xr : XR n od pl I) {K : jM → Prop} (hK : ∀ J : jM, (∀ x, x < 68 ∨ 95 < x → J x = I x) → XW n p a od true J → K J) : WO_reckon 68 1 30 I K := by
  unfold WO_reckon WO_forget
  intro I1 e1 I2 e2
  have i1 : ∀ x, x ≠ 68 → I2 x = I x := fun x hx => by rw [e2, jwr_ne hx, e1, jwr_ne hx]
  have i4 : I2 68 4 = 0 := by rw [e2, jwr_at, if_neg (by omega), e1, jwr_at, if_pos ⟨rfl, rfl⟩]
  have i5 : I2 68 5 = -1 := by rw [e2, jwr_at, if_pos ⟨rfl, rfl⟩]
  refine t_takeNumbers hn (fun i hi => (ho i hi).1) (xt.fr (fun c _ _ => i1 c (by omega)) hn) (xr.fr (fun c _ _ => i1 c (by omega))) (fun J0 j0 wx0 => ?_)
  obtain ⟨b, hbe⟩ : ∃ b : Nat → Nat → Nat, b = fun i j => a (od i) (od j) := ⟨_, rfl⟩
  rw [← hbe] at wx0
  have hb : ∀ i j, i < n → j < n → b i j < p := fun i j hi hj => by rw [hbe]; exact (hs _ _ (ho i hi).1 (ho j hj).1).1
  unfold WO_reckon_12
  refine lp_n2 n (fun k v J => v = nI k ∧ (∀ x, x < 68 ∨ 95 < x → J x = I x) ∧ J 68 4 = nI k ∧ J 68 5 = -1 ∧ WX n p b k J ∧ ∀ j, j < k → stk p b n j = false ∧ J 94 j = nI (Bk p b j j j) ∧ J 95 j = nI (iv p (Bk p b j j j))) ?_ ?_ (Nat.zero_le n) ⟨rfl, fun x hx => by rw [j0 x (by omega), i1 x (by omega)], by rw [j0 68 (by omega)]; exact i4, by rw [j0 68 (by omega)]; exact i5, wx0, fun j h => absurd h (Nat.not_lt_zero j)⟩
  · rintro k v J X hk ⟨rfl, j1, j4, j5, wx, jp⟩ go
    have hd := Bk_lt (show 0 < p by omega) hb k k k hk hk
    unfold WO_reckon_12b
    simp only [jrs, jws69]
    rw [clamp (show k < 2 ^ 31 by omega), j1 1 (by omega), xt.1, (wx k k hk (Nat.le_refl k)).1 (Nat.le_refl k)]
    refine ⟨fun q => absurd q (ge_no hk (by omega)), fun _ => ⟨vp_in_nI (by omega) (by omega), vp_in_nI (by omega) (by omega), vp_in_nI (by omega) (by omega), fun J2 f2 => ⟨vp_in_nI (by omega) (by omega), ?_⟩⟩⟩
    have g94 : J2 94 k = nI (Bk p b k k k) := by rw [f2, jwr_at, if_pos ⟨rfl, rfl⟩]
    rw [g94]
    refine t_inverse hp2 hp (by rw [f2, jwr_ne (by omega), j1 2 (by omega)]; exact xt.2.1) hd ⟨vp_in_nI (by omega) (by omega), fun J4 f4 => ⟨vp_in_nI (by omega) (by omega), ?_⟩⟩
    have k1 : ∀ x, x ≠ 94 → x ≠ 95 → J4 x = J x := fun x h1 h2 => by rw [f4, jwr_ne h2, f2, jwr_ne h1]
    have k94 : ∀ j, J4 94 j = if j = k then nI (Bk p b k k k) else J 94 j := fun j => by
      rw [f4, jwr_ne (by omega), f2, jwr_at]
      by_cases e : j = k <;> simp [e]
    have k95 : ∀ j, J4 95 j = if j = k then nI (iv p (Bk p b k k k)) else J 95 j := fun j => by
      rw [f4, jwr_at, f2, jwr_ne (by omega)]
      by_cases e : j = k <;> simp [e]
    have wx4 : WX n p b k J4 := wx.fr hn (fun x h1 h2 => k1 x (by omega) (by omega))
    have kp : stk p b n k = false → ∀ (J5 : jM), J5 94 = J4 94 → J5 95 = J4 95 → ∀ j, j < k + 1 → stk p b n j = false ∧ J5 94 j = nI (Bk p b j j j) ∧ J5 95 j = nI (iv p (Bk p b j j j)) := fun hst J5 s4 s5 j hj => by
      rw [s4, s5, k94, k95]
      by_cases e : j = k
      · subst e; simp [hst]
      · rw [if_neg e, if_neg e]; exact jp j (by omega)
    have fin : stk p b n k = false → WO_reckon_80 68 1 (nI k) J4 K X := fun hst => by
      unfold WO_reckon_80
      simp only [jrs]
      rw [clamp (show k < 2 ^ 31 by omega), k94, if_pos rfl, k1 1 (by omega) (by omega), j1 1 (by omega), xt.1, k1 68 (by omega) (by omega), j4, nI_1]
      refine ⟨vp_in_nI (by omega) (by omega), fun q J5 f5 => ?_, fun q => ?_⟩
      · have hz : Bk p b k k k = 0 := (nI_eq (by omega) (by omega)).mp q
        have hr : ∀ i, k < i → i < n → Bk p b k i k = 0 := fun i h1 h2 => by
          apply Classical.byContradiction
          intro hc
          have := stk_iff.mpr ⟨hz, i, h1, h2, hc⟩
          rw [hst] at this
          cases this
        refine go _ _ ⟨rfl, fun x hx => by rw [f5, jwr_ne (by omega), k1 x (by omega) (by omega)]; exact j1 x hx, by rw [f5, jwr_at, if_pos ⟨rfl, rfl⟩], by rw [f5, jwr_at, if_neg (by omega), k1 68 (by omega) (by omega)]; exact j5, fun i j hi hj => ⟨fun h => ?_, fun h1 h2 => ?_⟩, kp hst J5 (by rw [f5, jwr_ne (by omega)]) (by rw [f5, jwr_ne (by omega)])⟩
        · rw [f5, jwr_ne (by omega), (wx4 i j hi hj).1 (by omega), Bk_zero (by omega) hb hz hi (by omega)]
        · rw [f5, jwr_ne (by omega)]
          by_cases e : j = k
          · subst e
            rw [(wx4 i j hi hj).1 (Nat.le_refl j), hr i h2 hi, on1_zero hz]
          · exact (wx4 i j hi hj).2 (by omega) h2
      · refine t_eliminate hn hp2 hp hb hk (by rw [k1 2 (by omega) (by omega), j1 2 (by omega)]; exact xt.2.1) wx4 (by rw [k95, if_pos rfl]) (fun J6 m1 wx6 J7 f7 => ?_)
        rw [m1 68 (by omega), k1 68 (by omega) (by omega), j4, nI_1] at f7
        exact go _ _ ⟨rfl, fun x hx => by rw [f7, jwr_ne (by omega), m1 x (by omega), k1 x (by omega) (by omega)]; exact j1 x hx, by rw [f7, jwr_at, if_pos ⟨rfl, rfl⟩], by rw [f7, jwr_at, if_neg (by omega), m1 68 (by omega), k1 68 (by omega) (by omega)]; exact j5, wx6.fr hn (fun x h1 h2 => by rw [f7, jwr_ne (by omega)]), kp hst J7 (by rw [f7, jwr_ne (by omega), m1 94 (by omega)]) (by rw [f7, jwr_ne (by omega), m1 95 (by omega)])⟩
    rw [k94, if_pos rfl, k1 1 (by omega) (by omega), j1 1 (by omega), xt.1]
    refine ⟨fun q => fin (stk_no (fun hh => q (by rw [hh.1]; rfl))), fun q => ?_⟩
    have hz : Bk p b k k k = 0 := (nI_eq (by omega) (by omega)).mp q
    refine t_hasRest hn hp2 hp hb hk wx4 (fun hh => ⟨fun q2 => absurd q2 (by decide), fun _ J6 f6 => ?_⟩) (fun hh => ⟨fun _ => fin (stk_no (fun h2 => hh h2.2)), fun q2 => absurd rfl q2⟩)
    have hw : wkd p b n = k := fa_first_spec hk (stk_iff.mpr ⟨hz, hh⟩) (fun j hj => (jp j hj).1)
    refine hK J6 (fun x hx => by rw [f6, jwr_ne (by omega), k1 x (by omega) (by omega)]; exact j1 x hx) ?_
    unfold XW
    rw [if_pos rfl]
    refine ⟨k, b, hbe, hw.symm, ?_, ?_, fun j hj => ⟨?_, ?_, fun i h1 h2 => ?_⟩⟩
    · rw [f6, jwr_at, if_neg (by omega), k1 68 (by omega) (by omega)]; exact j4
    · rw [f6, jwr_at, if_pos ⟨rfl, rfl⟩, if_pos hk]
    · rw [f6, jwr_ne (by omega), k94, if_neg (by omega)]; exact (jp j hj).2.1
    · rw [f6, jwr_ne (by omega), k95, if_neg (by omega)]; exact (jp j hj).2.2
    · rw [f6, jwr_ne (by omega)]; exact (wx4 i j h2 (by omega)).2 hj h1
  · rintro v J X ⟨rfl, j1, j4, j5, wx, jp⟩
    unfold WO_reckon_12b
    dsimp only
    rw [j1 1 (by omega), xt.1]
    refine ⟨fun _ => hK J j1 ?_, fun q => absurd (nI_le (Nat.le_refl n) (by omega)) q⟩
    unfold XW
    rw [if_pos rfl]
    have hw : wkd p b n = n := fa_first_none (fun j hj => (jp j hj).1)
    exact ⟨n, b, hbe, hw.symm, j4, by rw [if_neg (Nat.lt_irrefl n)]; exact j5, fun j hj => ⟨(jp j hj).2.1, (jp j hj).2.2, fun i h1 h2 => (wx i j h2 (by omega)).2 hj h1⟩⟩
