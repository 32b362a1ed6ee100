/-! ===== SEARCH and BACK, the class's side ===== -/
section RY
variable {n p : Nat} {a : Nat → Nat → Nat} {hd : Nat → Bool} {od pl sd : Nat → Nat} {I : jM}
theorem jnl_le (l : List Nat) (u : Nat) : jnl n a l u ≤ 24 := ct_le _
theorem t_mostJoined {l : List Nat} (hn : n ≤ 24) (hlen : l.length < n) (xt : XT n p a hd sd I) {K : Int32 → Prop} (hK : K (nI (pkS n a l))) : RU_mostJoined 1 (mk (fun w => decide (w ∈ l))) I K := by
  obtain ⟨q, hq⟩ : ∃ q : Nat → Bool, q = fun u => decide (u < n) && !decide (u ∈ l) := ⟨_, rfl⟩
  obtain ⟨lt, hlt⟩ : ∃ lt : Nat → Nat → Bool, lt = fun k m => decide (jnl n a l m < jnl n a l k) := ⟨_, rfl⟩
  have hpk : pkS n a l = fm q lt n n := by rw [hq, hlt]; rfl
  unfold RU_mostJoined RU_mostJoined_7
  refine lp_n3 n (fun k x y v => v = nI k ∧ ((fm q lt n k = n ∧ x = 0 ∧ y = -1) ∨ (fm q lt n k < k ∧ x = nI (fm q lt n k) ∧ y = nI (jnl n a l (fm q lt n k))))) ?_ ?_ (Nat.zero_le n) ⟨rfl, Or.inl ⟨rfl, rfl, rfl⟩⟩
  · rintro k x y v X hk ⟨rfl, hv⟩ go
    have hj := jnl_le (n := n) (a := a) l k
    unfold RU_mostJoined_7b
    dsimp only
    simp only [jrs]
    rw [xt.1, clamp (show k < 2 ^ 31 by omega), xt.2.2.2.1 k hk, mk_and, mk_tst0 _ (by omega)]
    refine ⟨fun q2 => absurd q2 (ge_no hk (by omega)), fun _ => ⟨vp_in_nI (by omega) (by omega), t_bitCount _ _ _ ?_⟩⟩
    show (_ → _) ∧ (_ → (nI (jnl n a l k) ≤ y → _) ∧ (¬ nI (jnl n a l k) ≤ y → X (nI k, nI (jnl n a l k), nI k + 1)))
    refine ⟨fun q2 => go _ _ _ ⟨nI_1 k, ?_⟩, fun q2 => ?_⟩
    · have hm : k ∈ l := by simpa using q2
      rw [fm_succ, if_neg (by rw [hq]; simp [hm])]
      rcases hv with ⟨h1, h2, h3⟩ | ⟨h1, h2, h3⟩
      · exact Or.inl ⟨h1, h2, h3⟩
      · exact Or.inr ⟨by omega, h2, h3⟩
    · have hm : k ∉ l := by simpa using q2
      have hqk : q k = true := by rw [hq]; simp [hk, hm]
      rcases hv with ⟨h1, h2, h3⟩ | ⟨h1, h2, h3⟩
      · subst h3
        refine ⟨fun q3 => absurd q3 ?_, fun _ => go _ _ _ ⟨nI_1 k, Or.inr ?_⟩⟩
        · rw [Int32.le_iff_toInt_le, nI_toInt (by omega)]
          have : (-1 : Int32).toInt = -1 := by decide
          omega
        · rw [fm_succ, if_pos (by simp [hqk, h1])]
          exact ⟨by omega, rfl, rfl⟩
      · subst h3
        have hj2 := jnl_le (n := n) (a := a) l (fm q lt n k)
        rw [nI_leI (by omega) (by omega)]
        refine ⟨fun q3 => go _ _ _ ⟨nI_1 k, Or.inr ?_⟩, fun q3 => go _ _ _ ⟨nI_1 k, Or.inr ?_⟩⟩
        · have h9 : lt k (fm q lt n k) = false := by rw [hlt]; exact decide_eq_false (by rw [← hlt]; omega)
          rw [fm_succ, h9, if_neg (by simp [show ¬ fm q lt n k = n by omega])]
          exact ⟨by omega, h2, rfl⟩
        · have h9 : lt k (fm q lt n k) = true := by rw [hlt]; exact decide_eq_true (by rw [← hlt]; omega)
          rw [fm_succ, h9, if_pos (by simp [hqk])]
          exact ⟨by omega, rfl, rfl⟩
  · rintro x y v X ⟨rfl, hv⟩
    unfold RU_mostJoined_7b
    dsimp only
    simp only [jrs]
    rw [xt.1]
    refine ⟨fun _ => ?_, fun q2 => absurd (nI_le (Nat.le_refl n) (by omega)) q2⟩
    obtain ⟨u, h1, h2⟩ := some_left hlen
    have hs := (fm_some (q := q) (lt := lt) (n := n) ⟨u, h1, by rw [hq]; simp [h1, h2]⟩).1
    rcases hv with ⟨h1, -, -⟩ | ⟨-, h2, -⟩
    · omega
    · rw [h2, ← hpk]; exact hK
theorem t_search (hn1 : 1 ≤ n) (hn : n ≤ 24) (xt : XT n p a hd sd I) {K : jM → Prop} (hK : ∀ J : jM, (∀ x, x ≠ 31 → x ≠ 32 → J x = I x) → XO (fun i => so (pkS n a) (n - 1 - i)) n J → K J) : RU_search 33 1 30 I K := by
  have hg := pkS_ok n a
  unfold RU_search
  intro v4 e4
  rw [xt.1] at e4
  subst e4
  unfold RU_search_10
  refine lp_n3 n (fun t pl v J => v = nI (n - t) - 1 ∧ pl = mk (fun w => decide (w ∈ sq (pkS n a) t)) ∧ (∀ x, x ≠ 31 → x ≠ 32 → J x = I x) ∧ ∀ j, n - t ≤ j → j < n → J 31 j = nI (so (pkS n a) (n - 1 - j)) ∧ J 32 (so (pkS n a) (n - 1 - j)) = nI j) ?_ ?_ (Nat.zero_le n) ⟨rfl, by rw [← mk_nil]; exact mk_ext (fun i _ => by simp [sq]), fun _ _ _ => rfl, fun j h1 h2 => absurd h1 (by omega)⟩
  · rintro t pl v J X ht ⟨rfl, rfl, j1, j2⟩ go
    obtain ⟨s1, s2, s3⟩ := sq_ok hg t (by omega)
    obtain ⟨o1, o2⟩ := so_ok hg ht
    have e0 : nI (n - t) - 1 = nI (n - 1 - t) := by rw [nI_dn ht]; congr 1; omega
    rw [e0]
    unfold RU_search_10b
    dsimp only
    refine ⟨fun q => absurd q (nI_pos (by omega)), fun _ => t_mostJoined hn (by omega) (xt.fr (fun c _ _ => j1 c (by omega) (by omega)) hn) ?_⟩
    show RO_set 30 _ (nI (so (pkS n a) t)) J _
    refine t_rset (by omega) (by omega) (fun J1 k1 k2 k3 v3 e3 => go _ _ _ ⟨?_, ?_, fun x h1 h2 => by rw [k1 x h1 h2]; exact j1 x h1 h2, fun j h1 h2 => ?_⟩)
    · rw [nI_m1, show n - 1 - t = n - (t + 1) by omega]
    · have e9 : v3 = mk (fun w => decide (w ∈ sq (pkS n a) t)) ||| ((1 : Int32) <<< (nI (so (pkS n a) t) &&& 31)) := e3
      rw [e9, mk_one (by omega), mk_or]
      apply mk_ext
      intro i _
      rw [sq_succ]
      by_cases q1 : i ∈ sq (pkS n a) t <;> by_cases q2 : i = so (pkS n a) t <;> simp [q1, q2]
    · rw [k2, k3]
      by_cases e : j = n - 1 - t
      · rw [if_pos e, if_pos (by rw [e, show n - 1 - (n - 1 - t) = t by omega]), e, show n - 1 - (n - 1 - t) = t by omega]
        exact ⟨rfl, rfl⟩
      · rw [if_neg e, if_neg (fun e2 => o2 (by rw [← e2]; exact sq_mem _ _ _ (by omega)))]
        exact j2 j (by omega) h2
  · rintro pl v J X ⟨rfl, rfl, j1, j2⟩
    unfold RU_search_10b
    dsimp only
    rw [Nat.sub_self]
    exact ⟨fun _ => hK J j1 (fun j hj => j2 j (by omega) hj), fun q => absurd (by decide) q⟩
/-- the places when i pairs have been exchanged -/
def trn (n : Nat) (od : Nat → Nat) (i j : Nat) : Nat := if j < i ∨ n - i ≤ j then od (n - 1 - j) else od j
theorem trn_end {i j : Nat} (hi : i = n / 2) (hj : j < n) : trn n od i j = od (n - 1 - j) := by
  unfold trn
  by_cases h : j < i ∨ n - i ≤ j
  · rw [if_pos h]
  · rw [if_neg h]; congr 1; omega
theorem trn_step {i j : Nat} (hi : i < n / 2) (hj : j < n) : trn n od (i + 1) j = if j = n - 1 - i then od i else if j = i then od (n - 1 - i) else trn n od i j := by
  unfold trn
  by_cases h1 : j = n - 1 - i
  · rw [if_pos h1, if_pos (by omega)]; congr 1; omega
  · rw [if_neg h1]
    by_cases h2 : j = i
    · rw [if_pos h2, if_pos (by omega), h2]
    · rw [if_neg h2]
      by_cases h3 : j < i ∨ n - i ≤ j
      · rw [if_pos h3, if_pos (by omega)]
      · rw [if_neg h3, if_neg (by omega)]
theorem t_turn (hn : n ≤ 24) (ho : Perm n od pl) (xr : XR n od pl I) {K : jM → Prop} (hK : ∀ J : jM, (∀ x, x ≠ 31 → x ≠ 32 → J x = I x) → XO (fun i => od (n - 1 - i)) n J → K J) : RO_turn 30 I K := by
  have hxo : XO od n I := fun j hj => ⟨(xr.2 j hj).1, by rw [(xr.2 _ (ho j hj).1).2, (ho j hj).2.1]⟩
  unfold RO_turn RO_turn_2
  refine lp_n2 (n / 2) (fun i v J => v = nI i ∧ (∀ x, x ≠ 31 → x ≠ 32 → J x = I x) ∧ XO (trn n od i) n J) ?_ ?_ (Nat.zero_le _) ⟨rfl, fun _ _ _ => rfl, fun j hj => by
    have e : trn n od 0 j = od j := by unfold trn; rw [if_neg (by omega)]
    rw [e]; exact hxo j hj⟩
  · rintro i v J X hi ⟨rfl, j1, xo⟩ go
    have e1 : trn n od i i = od i := by unfold trn; rw [if_neg (by omega)]
    have e2 : trn n od i (n - 1 - i) = od (n - 1 - i) := by unfold trn; rw [if_neg (by omega)]
    have o1 := (ho i (by omega)).1
    have o2 := (ho (n - 1 - i) (by omega)).1
    have x1 := (xo i (by omega)).1
    have x2 := (xo (n - 1 - i) (by omega)).1
    rw [e1] at x1
    rw [e2] at x2
    unfold RO_turn_2b
    dsimp only
    rw [j1 30 (by omega) (by omega), xr.1, show (2 : Int32) = nI 2 from rfl, pk_div (by omega) (by decide) (by decide), show (1 : Int32) = nI 1 from rfl, pk_sub (by omega), pk_sub (by omega)]
    refine ⟨fun q => absurd q (ge_no hi (by omega)), fun _ => ?_⟩
    unfold RO_exchange
    simp only [jrs]
    rw [clamp (show i < 2 ^ 31 by omega), clamp (show n - 1 - i < 2 ^ 31 by omega), x1, x2]
    refine ⟨vp_in_nI (by omega) (by omega), fun v3 e3 => ⟨vp_in_nI (by omega) (by omega), t_rset (by omega) (by omega) (fun J1 k1 k2 k3 => ?_)⟩⟩
    subst e3
    refine t_rset (by omega) (by omega) (fun J2 m1 m2 m3 => go _ _ ⟨nI_1 i, fun x h1 h2 => by rw [m1 x h1 h2, k1 x h1 h2]; exact j1 x h1 h2, fun j hj => ?_⟩)
    have tinj : ∀ x y, x < n → y < n → od x = od y → x = y := fun x y hx hy e => ho.inj hx hy e
    rw [trn_step hi hj, m2, m3, k2, k3]
    by_cases h1 : j = n - 1 - i
    · rw [if_pos h1, if_pos h1, if_pos rfl, h1]; exact ⟨rfl, rfl⟩
    · rw [if_neg h1, if_neg h1]
      by_cases h2 : j = i
      · rw [if_pos h2, if_pos h2, if_neg (fun e => absurd (tinj _ _ (by omega) (by omega) e) (by omega)), if_pos rfl, h2]; exact ⟨rfl, rfl⟩
      · rw [if_neg h2, if_neg h2]
        have h3 : ∃ y, y < n ∧ trn n od i j = od y ∧ y ≠ i ∧ y ≠ n - 1 - i := by
          unfold trn
          by_cases h4 : j < i ∨ n - i ≤ j
          · rw [if_pos h4]; exact ⟨n - 1 - j, by omega, rfl, by omega, by omega⟩
          · rw [if_neg h4]; exact ⟨j, hj, rfl, h2, h1⟩
        obtain ⟨y, hy, ey, hy1, hy2⟩ := h3
        have h5 : ¬ trn n od i j = od i := fun e => hy1 (tinj _ _ hy (by omega) (by rw [← ey, e]))
        have h6 : ¬ trn n od i j = od (n - 1 - i) := fun e => hy2 (tinj _ _ hy (by omega) (by rw [← ey, e]))
        rw [if_neg h5, if_neg h6]
        exact xo j hj
  · rintro v J X ⟨rfl, j1, xo⟩
    unfold RO_turn_2b
    dsimp only
    rw [j1 30 (by omega) (by omega), xr.1, show (2 : Int32) = nI 2 from rfl, pk_div (by omega) (by decide) (by decide)]
    refine ⟨fun _ => hK J j1 (fun j hj => ?_), fun q => absurd (nI_le (Nat.le_refl _) (by omega)) q⟩
    have := xo j hj
    rw [trn_end rfl hj] at this
    exact this
end RY
