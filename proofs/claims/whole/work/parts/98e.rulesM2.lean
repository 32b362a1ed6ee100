/-! ===== byNumbers, bySearch, BACK, someHeld: the reference's side ===== -/
section RN
variable {n p : Nat} {a : Nat → Nat → Nat} {hd : Nat → Bool} {od pl sd : Nat → Nat} {I : jM}
theorem pk0 {l : List Nat} {u : Nat} (hu : u < n) (hc : cnd n hd l u = true) (hno : ∀ w, w < u → cnd n hd l w = false) : pkG n a hd 0 l = u := by
  unfold pkG
  have e : ltc 0 (elL (adj n a) l) = fun _ _ => false := by
    funext k m
    exact decide_eq_false (Nat.lt_irrefl 0)
  rw [e, fm_first hc hno n (Nat.le_refl n) hu, if_pos hu]
theorem cnd_no {l : List Nat} {w : Nat} (h : w ∈ l ∨ (frs n hd l = true ∧ hd w = true)) : cnd n hd l w = false := by
  cases hc : cnd n hd l w with
  | false => rfl
  | true =>
    obtain ⟨-, h2, h3⟩ := cnd_iff.mp hc
    rcases h with h | ⟨h4, h5⟩
    · exact absurd h h2
    · have := h3 h4
      rw [h5] at this; cases this
theorem tM_byNumbers (hn : n ≤ 24) (mt : MT n p a hd sd I) {K : jM → Prop} (hK : ∀ J : jM, (∀ x, x ≠ 103 → J x = I x) → (∀ i, i < n → J 103 i = nI (so (pkG n a hd 0) i)) → K J) : MD_byNumbers 100 I K := by
  have hct := fb_ct_not hd n
  unfold MD_byNumbers MD_byNumbers_4
  refine lp_n3 2 (fun m x v J => v = nI m ∧ (∀ x, x ≠ 103 → J x = I x) ∧ (m = 0 → x = 0) ∧ (m = 1 → x = nI (fb_ct (fun w => !hd w) n) ∧ (∀ w, w ∈ sq (pkG n a hd 0) (fb_ct (fun w => !hd w) n) ↔ w < n ∧ hd w = false) ∧ ∀ j, j < fb_ct (fun w => !hd w) n → J 103 j = nI (so (pkG n a hd 0) j)) ∧ (m = 2 → ∀ j, j < n → J 103 j = nI (so (pkG n a hd 0) j))) ?_ ?_ (Nat.zero_le 2) ⟨rfl, fun _ _ => rfl, fun _ => rfl, fun h => absurd h (by decide), fun h => absurd h (by decide)⟩
  · rintro m x v J X hm ⟨rfl, j1, h0, h1, -⟩ go
    unfold MD_byNumbers_4b
    dsimp only
    refine ⟨fun q => absurd q (nI_ge (a := m) (b := 2) hm (by omega)), fun _ => ?_⟩
    unfold MD_byNumbers_11
    have hm2 : m = 0 ∨ m = 1 := by omega
    rcases hm2 with rfl | rfl
    · rw [h0 rfl]
      refine lp_n3 n (fun u x v J2 => v = nI u ∧ x = nI (fb_ct (fun w => !hd w) u) ∧ (∀ x, x ≠ 103 → J2 x = I x) ∧ (∀ w, w ∈ sq (pkG n a hd 0) (fb_ct (fun w => !hd w) u) ↔ w < u ∧ hd w = false) ∧ ∀ j, j < fb_ct (fun w => !hd w) u → J2 103 j = nI (so (pkG n a hd 0) j)) ?_ ?_ (Nat.zero_le n) ⟨rfl, rfl, j1, fun w => ⟨fun h => absurd h (by simp [sq, fb_ct]), fun h => absurd h.1 (Nat.not_lt_zero w)⟩, fun j h => absurd h (Nat.not_lt_zero j)⟩
      · rintro u x v J2 X2 hu ⟨rfl, rfl, k1, k2, k3⟩ go2
        have hcl := fb_ct_le (fun w => !hd w) u
        unfold MD_byNumbers_11b MD_byNumbers_35
        dsimp only
        simp only [jrs]
        rw [k1 100 (by omega), mt.1, clamp (show u < 2 ^ 31 by omega), k1 102 (by omega), mt.2.2.2.1 u hu, clamp (show fb_ct (fun w => !hd w) u < 2 ^ 31 by omega)]
        refine ⟨fun q => absurd q (ge_no hu (by omega)), fun _ => ⟨vp_in_nI (by omega) (by omega), fun _ => ⟨fun q => ?_, fun q => ⟨vp_in_nI (by omega) (by omega), fun J3 f3 => ?_⟩⟩, fun q => absurd q (by decide)⟩⟩
        · have hh : hd u = true := by
            cases hh : hd u with
            | true => rfl
            | false => rw [hh] at q; exact absurd rfl q
          have e : fb_ct (fun w => !hd w) (u + 1) = fb_ct (fun w => !hd w) u := by rw [fb_ct_succ]; simp [hh]
          refine go2 _ _ _ ⟨nI_1 u, by rw [e], k1, fun w => ?_, fun j hj => k3 j (by omega)⟩
          rw [e, k2 w]
          constructor
          · rintro ⟨q1, q2⟩; exact ⟨by omega, q2⟩
          · rintro ⟨q1, q2⟩
            refine ⟨?_, q2⟩
            rcases Nat.lt_or_ge w u with h | h
            · exact h
            · have : w = u := by omega
              rw [this, hh] at q2; cases q2
        · have hh : hd u = false := by
            cases hh : hd u with
            | false => rfl
            | true => rw [hh] at q; exact absurd q (by decide)
          have e : fb_ct (fun w => !hd w) (u + 1) = fb_ct (fun w => !hd w) u + 1 := by rw [fb_ct_succ]; simp [hh]
          have hul : u ∉ sq (pkG n a hd 0) (fb_ct (fun w => !hd w) u) := fun h => absurd ((k2 u).mp h).1 (Nat.lt_irrefl u)
          have hso : so (pkG n a hd 0) (fb_ct (fun w => !hd w) u) = u := pk0 hu (cnd_iff.mpr ⟨hu, hul, fun _ => hh⟩) (fun w hw => cnd_no (by
            cases h5 : hd w with
            | false => exact Or.inl ((k2 w).mpr ⟨hw, h5⟩)
            | true => exact Or.inr ⟨frs_iff.mpr ⟨u, hu, hul, hh⟩, rfl⟩))
          refine go2 _ _ _ ⟨nI_1 u, by rw [e]; exact nI_1 _, fun x hx => by rw [f3, jwr_ne hx]; exact k1 x hx, fun w => ?_, fun j hj => ?_⟩
          · rw [e, sq_succ, hso, List.mem_append, List.mem_singleton, k2 w]
            constructor
            · rintro (⟨q1, q2⟩ | q1)
              · exact ⟨by omega, q2⟩
              · exact ⟨by omega, by rw [q1]; exact hh⟩
            · rintro ⟨q1, q2⟩
              by_cases e2 : w = u
              · exact Or.inr e2
              · exact Or.inl ⟨by omega, q2⟩
          · rw [f3, jwr_at]
            by_cases e2 : j = fb_ct (fun w => !hd w) u
            · rw [if_pos ⟨rfl, e2⟩, e2, hso]
            · rw [if_neg (fun e3 => e2 e3.2)]; exact k3 j (by omega)
      · rintro x v J2 X2 ⟨rfl, rfl, k1, k2, k3⟩
        unfold MD_byNumbers_11b
        dsimp only
        rw [k1 100 (by omega), mt.1]
        exact ⟨fun _ => go _ _ _ ⟨rfl, k1, fun h => absurd h (by decide), fun _ => ⟨rfl, k2, k3⟩, fun h => absurd h (by decide)⟩, fun q => absurd (nI_le (Nat.le_refl n) (by omega)) q⟩
    · obtain ⟨hx, g2, g3⟩ := h1 rfl
      obtain ⟨c0, hc0⟩ : ∃ c0, c0 = fb_ct (fun w => !hd w) n := ⟨_, rfl⟩
      rw [← hc0] at hx g2 g3 hct
      rw [hx]
      refine lp_n3 n (fun u x v J2 => v = nI u ∧ x = nI (c0 + fb_ct hd u) ∧ (∀ x, x ≠ 103 → J2 x = I x) ∧ (∀ w, w ∈ sq (pkG n a hd 0) (c0 + fb_ct hd u) ↔ (w < n ∧ hd w = false) ∨ (w < u ∧ hd w = true)) ∧ ∀ j, j < c0 + fb_ct hd u → J2 103 j = nI (so (pkG n a hd 0) j)) ?_ ?_ (Nat.zero_le n) ⟨rfl, rfl, j1, fun w => by
        show w ∈ sq (pkG n a hd 0) c0 ↔ _
        rw [g2 w]
        exact ⟨Or.inl, fun h => h.elim id (fun h => absurd h.1 (Nat.not_lt_zero w))⟩, fun j hj => g3 j hj⟩
      · rintro u x v J2 X2 hu ⟨rfl, rfl, k1, k2, k3⟩ go2
        have hcl : fb_ct hd (u + 1) ≤ fb_ct hd n := fb_ct_mono hd (by omega)
        have hcm : fb_ct hd u ≤ fb_ct hd (u + 1) := fb_ct_mono hd (by omega)
        unfold MD_byNumbers_11b MD_byNumbers_35
        dsimp only
        simp only [jrs]
        rw [k1 100 (by omega), mt.1, clamp (show u < 2 ^ 31 by omega), k1 102 (by omega), mt.2.2.2.1 u hu, clamp (show c0 + fb_ct hd u < 2 ^ 31 by omega)]
        refine ⟨fun q => absurd q (ge_no hu (by omega)), fun _ => ⟨vp_in_nI (by omega) (by omega), fun q => absurd rfl q, fun _ => ⟨fun q => ?_, fun q => ?_⟩⟩⟩
        · have hh : hd u = false := by
            cases hh : hd u with
            | false => rfl
            | true => rw [hh] at q; exact absurd rfl q
          have e : fb_ct hd (u + 1) = fb_ct hd u := by rw [fb_ct_succ]; simp [hh]
          refine go2 _ _ _ ⟨nI_1 u, by rw [e], k1, fun w => ?_, fun j hj => k3 j (by omega)⟩
          rw [e, k2 w]
          constructor
          · rintro (q1 | ⟨q1, q2⟩)
            · exact Or.inl q1
            · exact Or.inr ⟨by omega, q2⟩
          · rintro (q1 | ⟨q1, q2⟩)
            · exact Or.inl q1
            · refine Or.inr ⟨?_, q2⟩
              rcases Nat.lt_or_ge w u with h | h
              · exact h
              · have : w = u := by omega
                rw [this, hh] at q2; cases q2
        · have hh : hd u = true := by
            cases hh : hd u with
            | true => rfl
            | false => rw [hh] at q; exact absurd q (by decide)
          have e : fb_ct hd (u + 1) = fb_ct hd u + 1 := by rw [fb_ct_succ]; simp [hh]
          refine ⟨vp_in_nI (by omega) (by omega), fun J3 f3 => ?_⟩
          have hul : u ∉ sq (pkG n a hd 0) (c0 + fb_ct hd u) := fun h => by
            rcases (k2 u).mp h with h | h
            · rw [hh] at h; exact absurd h.2 (by decide)
            · exact absurd h.1 (Nat.lt_irrefl u)
          have hnf : frs n hd (sq (pkG n a hd 0) (c0 + fb_ct hd u)) = false := by
            cases hf : frs n hd (sq (pkG n a hd 0) (c0 + fb_ct hd u)) with
            | false => rfl
            | true =>
              obtain ⟨w, w1, w2, w3⟩ := frs_iff.mp hf
              exact absurd ((k2 w).mpr (Or.inl ⟨w1, w3⟩)) w2
          have hso : so (pkG n a hd 0) (c0 + fb_ct hd u) = u := pk0 hu (cnd_iff.mpr ⟨hu, hul, fun h => by rw [hnf] at h; cases h⟩) (fun w hw => cnd_no (Or.inl ((k2 w).mpr (by
            cases h5 : hd w with
            | false => exact Or.inl ⟨by omega, rfl⟩
            | true => exact Or.inr ⟨hw, rfl⟩))))
          refine go2 _ _ _ ⟨nI_1 u, by rw [e]; exact nI_1 _, fun x hx => by rw [f3, jwr_ne hx]; exact k1 x hx, fun w => ?_, fun j hj => ?_⟩
          · rw [e, ← Nat.add_assoc, sq_succ, hso, List.mem_append, List.mem_singleton, k2 w]
            constructor
            · rintro ((q1 | ⟨q1, q2⟩) | q1)
              · exact Or.inl q1
              · exact Or.inr ⟨by omega, q2⟩
              · exact Or.inr ⟨by omega, by rw [q1]; exact hh⟩
            · rintro (q1 | ⟨q1, q2⟩)
              · exact Or.inl (Or.inl q1)
              · by_cases e2 : w = u
                · exact Or.inr e2
                · exact Or.inl (Or.inr ⟨by omega, q2⟩)
          · rw [f3, jwr_at]
            by_cases e2 : j = c0 + fb_ct hd u
            · rw [if_pos ⟨rfl, e2⟩, e2, hso]
            · rw [if_neg (fun e3 => e2 e3.2)]; exact k3 j (by omega)
      · rintro x v J2 X2 ⟨rfl, rfl, k1, k2, k3⟩
        unfold MD_byNumbers_11b
        dsimp only
        rw [k1 100 (by omega), mt.1]
        exact ⟨fun _ => go _ _ _ ⟨rfl, k1, fun h => absurd h (by decide), fun h => absurd h (by decide), fun _ j hj => k3 j (by omega)⟩, fun q => absurd (nI_le (Nat.le_refl n) (by omega)) q⟩
  · rintro x v J X ⟨rfl, j1, -, -, h2⟩
    unfold MD_byNumbers_4b
    dsimp only
    exact ⟨fun _ => hK J j1 (h2 rfl), fun q => absurd (by decide) q⟩
theorem tM_bySearch (hn1 : 1 ≤ n) (hn : n ≤ 24) (hlt : ∀ u w, u < n → w < n → a u w < 2 ^ 31) (mt : MT n p a hd sd I) {K : jM → Prop} (hK : ∀ J : jM, (∀ x, x ≠ 103 → x ≠ 106 → J x = I x) → (∀ i, i < n → J 103 i = nI (so (pkS n a) (n - 1 - i))) → K J) : MD_bySearch 100 I K := by
  have hg := pkS_ok n a
  unfold MD_bySearch
  refine tM_beginNet hn mt (fun J0 j0 j06 v2 e2 => ?_) hlt
  rw [j0 100 (by omega), mt.1] at e2
  subst e2
  unfold MD_bySearch_13
  refine lp_n3 n (fun t pl v J => v = nI (n - t) - 1 ∧ pl = mk (fun w => decide (w ∈ sq (pkS n a) t)) ∧ (∀ x, x ≠ 103 → J x = J0 x) ∧ ∀ j, n - t ≤ j → j < n → J 103 j = nI (so (pkS n a) (n - 1 - j))) ?_ ?_ (Nat.zero_le n) ⟨rfl, by rw [← mk_nil]; exact mk_ext (fun i _ => by simp [sq]), fun _ _ => rfl, fun j h1 h2 => absurd h1 (by omega)⟩
  · rintro t pl v J X ht ⟨rfl, rfl, j1, j2⟩ go
    obtain ⟨s1, s2, s3⟩ := sq_ok hg t (by omega)
    obtain ⟨o1, o2⟩ := so_ok hg ht
    obtain ⟨l, hl⟩ : ∃ l, l = sq (pkS n a) t := ⟨_, rfl⟩
    have hso : so (pkS n a) t = pkS n a l := by rw [hl]; rfl
    have hsq : sq (pkS n a) (t + 1) = l ++ [so (pkS n a) t] := by rw [hl]; rfl
    rw [← hl] at s1 s2 s3 o2 ⊢
    have m0 : J 100 0 = nI n := by rw [j1 100 (by omega), j0 100 (by omega)]; exact mt.1
    have m6 : ∀ u, u < n → J 106 u = mk (adj n a u) := fun u hu => by rw [j1 106 (by omega)]; exact j06 u hu
    have e0 : nI (n - t) - 1 = nI (n - 1 - t) := by rw [nI_dn ht]; congr 1; omega
    rw [e0]
    unfold MD_bySearch_13b
    dsimp only
    refine ⟨fun q => absurd q (nI_pos (by omega)), fun _ => ?_⟩
    obtain ⟨q, hq⟩ : ∃ q : Nat → Bool, q = fun u => decide (u < n) && !decide (u ∈ l) := ⟨_, rfl⟩
    obtain ⟨lt, hlt'⟩ : ∃ lt : Nat → Nat → Bool, lt = fun k m => decide (jnl n a l m < jnl n a l k) := ⟨_, rfl⟩
    have hpk : pkS n a l = fm q lt n n := by rw [hq, hlt']; rfl
    unfold MD_bySearch_23
    refine lp_n2 n (fun k x v => v = nI k ∧ ((fm q lt n k = n ∧ x = -9) ∨ (fm q lt n k < k ∧ x = nI (fm q lt n k)))) ?_ ?_ (Nat.zero_le n) ⟨rfl, Or.inl ⟨rfl, rfl⟩⟩
    · rintro k x v X2 hk ⟨rfl, hv⟩ go2
      unfold MD_bySearch_23b MD_bySearch_46
      dsimp only
      simp only [jrs]
      rw [m0, mk_tst0 _ (by omega)]
      refine ⟨fun q2 => absurd q2 (ge_no hk (by omega)), fun _ => ⟨fun q2 => ⟨fun _ => go2 _ _ ⟨nI_1 k, ?_⟩, fun q3 => absurd trivial q3⟩, fun q2 => ⟨fun q3 => absurd q3 (by decide), fun _ => ?_⟩⟩⟩
      · have hm : k ∈ l := by simpa using q2
        rw [fm_succ, if_neg (by rw [hq]; simp [hm])]
        rcases hv with ⟨h1, h2⟩ | ⟨h1, h2⟩
        · exact Or.inl ⟨h1, h2⟩
        · exact Or.inr ⟨by omega, h2⟩
      · have hm : k ∉ l := by simpa using q2
        have hqk : q k = true := by rw [hq]; simp [hk, hm]
        rcases hv with ⟨h1, h2⟩ | ⟨h1, h2⟩
        · subst h2
          refine ⟨fun _ => go2 _ _ ⟨nI_1 k, Or.inr ?_⟩, fun q3 => absurd rfl q3⟩
          rw [fm_succ, if_pos (by simp [hqk, h1])]
          exact ⟨by omega, rfl⟩
        · subst h2
          have hj := jnl_le (n := n) (a := a) l k
          have hj2 := jnl_le (n := n) (a := a) l (fm q lt n k)
          rw [clamp (show k < 2 ^ 31 by omega), clamp (show fm q lt n k < 2 ^ 31 by omega), m6 k hk, m6 _ (by omega), mk_and, mk_and]
          refine ⟨fun q3 => absurd q3 (nI_ne9 (by omega)), fun _ => ⟨vp_in_nI (by omega) (by omega), t_ones _ _ _ ⟨vp_in_nI (by omega) (by omega), t_ones _ _ _ ?_⟩⟩⟩
          show (nI (jnl n a l k) ≤ nI (jnl n a l (fm q lt n k)) → _) ∧ (¬ nI (jnl n a l k) ≤ nI (jnl n a l (fm q lt n k)) → _)
          rw [nI_leI (by omega) (by omega)]
          refine ⟨fun q3 => go2 _ _ ⟨nI_1 k, Or.inr ?_⟩, fun q3 => go2 _ _ ⟨nI_1 k, Or.inr ?_⟩⟩
          · have h9 : lt k (fm q lt n k) = false := by rw [hlt']; exact decide_eq_false (by rw [← hlt']; omega)
            rw [fm_succ, h9, if_neg (by simp [show ¬ fm q lt n k = n by omega])]
            exact ⟨by omega, rfl⟩
          · have h9 : lt k (fm q lt n k) = true := by rw [hlt']; exact decide_eq_true (by rw [← hlt']; omega)
            rw [fm_succ, h9, if_pos (by simp [hqk])]
            exact ⟨by omega, rfl⟩
    · rintro x v X2 ⟨rfl, hv⟩
      have hx : x = nI (so (pkS n a) t) := by
        obtain ⟨u, h1, h2⟩ := some_left (show l.length < n by omega)
        have hs := (fm_some (q := q) (lt := lt) (n := n) ⟨u, h1, by rw [hq]; simp [h1, h2]⟩).1
        rcases hv with ⟨h1, -⟩ | ⟨-, h2⟩
        · omega
        · rw [h2, hso, hpk]
      subst hx
      unfold MD_bySearch_23b
      dsimp only
      simp only [jrs]
      rw [m0, clamp (show n - 1 - t < 2 ^ 31 by omega)]
      refine ⟨fun _ => ⟨vp_in_nI (by omega) (by omega), fun J1 f1 v1 e1 => go _ _ _ ⟨?_, ?_, fun x hx => by rw [f1, jwr_ne hx]; exact j1 x hx, fun j h1 h2 => ?_⟩⟩, fun q => absurd (nI_le (Nat.le_refl n) (by omega)) q⟩
      · rw [nI_m1, show n - 1 - t = n - (t + 1) by omega]
      · rw [e1, mk_one (by omega), mk_or]
        apply mk_ext
        intro i _
        rw [hsq]
        by_cases q1 : i ∈ l <;> by_cases q2 : i = so (pkS n a) t <;> simp [q1, q2]
      · rw [f1, jwr_at]
        by_cases e : j = n - 1 - t
        · rw [if_pos ⟨rfl, e⟩, e, show n - 1 - (n - 1 - t) = t by omega]
        · rw [if_neg (fun e3 => e e3.2)]; exact j2 j (by omega) h2
  · rintro pl v J X ⟨rfl, rfl, j1, j2⟩
    unfold MD_bySearch_13b
    dsimp only
    rw [Nat.sub_self]
    exact ⟨fun _ => hK J (fun x h1 h2 => (j1 x h1).trans (j0 x h2)) (fun i hi => j2 i (by omega) hi), fun q => absurd (by decide) q⟩
theorem tM_turn (hn : n ≤ 24) (h0 : I 100 0 = nI n) (mr : MR n od I) {K : Int32 → jM → Prop} (hK : ∀ J : jM, (∀ x, x ≠ 103 → J x = I x) → (∀ i, i < n → J 103 i = nI (od (n - 1 - i))) → MD_order_216 100 J K) : MD_order_158 100 0 I K := by
  unfold MD_order_158
  refine lp_n2 (n / 2) (fun i v J => v = nI i ∧ (∀ x, x ≠ 103 → J x = I x) ∧ ∀ j, j < n → J 103 j = nI (trn n od i j)) ?_ ?_ (Nat.zero_le _) ⟨rfl, fun _ _ => rfl, fun j hj => by
    have e : trn n od 0 j = od j := by unfold trn; rw [if_neg (by omega)]
    rw [e]; exact mr j hj⟩
  · rintro i v J X hi ⟨rfl, j1, j2⟩ go
    have e1 : trn n od i i = od i := by unfold trn; rw [if_neg (by omega)]
    have e2 : trn n od i (n - 1 - i) = od (n - 1 - i) := by unfold trn; rw [if_neg (by omega)]
    have x1 := j2 i (by omega)
    have x2 := j2 (n - 1 - i) (by omega)
    rw [e1] at x1
    rw [e2] at x2
    unfold MD_order_158b
    dsimp only
    simp only [jrs]
    rw [j1 100 (by omega), h0, show (2 : Int32) = nI 2 from rfl, pk_mul, show (1 : Int32) = nI 1 from rfl, pk_sub (by omega), pk_sub (by omega), clamp (show i < 2 ^ 31 by omega), clamp (show n - 1 - i < 2 ^ 31 by omega), x1, x2]
    refine ⟨fun q => absurd q (ge_no (by omega) (by omega)), fun _ => ⟨vp_in_nI (by omega) (by omega), fun v3 e3 => ⟨vp_in_nI (by omega) (by omega), vp_in_nI (by omega) (by omega), fun J1 f1 => ?_⟩⟩⟩
    subst e3
    have m0 : J1 100 0 = nI n := by rw [f1, jwr_ne (by omega), j1 100 (by omega)]; exact h0
    rw [m0, pk_sub (by omega), pk_sub (by omega), clamp (show n - 1 - i < 2 ^ 31 by omega)]
    refine ⟨vp_in_nI (by omega) (by omega), fun J2 f2 => go _ _ ⟨nI_1 i, fun x hx => by rw [f2, jwr_ne hx, f1, jwr_ne hx]; exact j1 x hx, fun j hj => ?_⟩⟩
    rw [f2, jwr_at, f1, jwr_at, trn_step hi hj]
    by_cases h1 : j = n - 1 - i
    · rw [if_pos ⟨rfl, h1⟩, if_pos h1]
    · rw [if_neg (fun e => h1 e.2), if_neg h1]
      by_cases h2 : j = i
      · rw [if_pos ⟨rfl, h2⟩, if_pos h2]
      · rw [if_neg (fun e => h2 e.2), if_neg h2]; exact j2 j hj
  · rintro v J X ⟨rfl, j1, j2⟩
    unfold MD_order_158b
    dsimp only
    simp only [jrs]
    rw [j1 100 (by omega), h0, show (2 : Int32) = nI 2 from rfl, pk_mul]
    have hle : nI n - 1 ≤ nI (2 * (n / 2)) := by
      rw [Int32.le_iff_toInt_le, show (1 : Int32) = nI 1 from rfl, pk_sub_toInt (by omega) (by omega), nI_toInt (by omega)]
      omega
    refine ⟨fun _ => hK J j1 (fun j hj => ?_), fun q => absurd hle q⟩
    rw [j2 j hj, trn_end rfl hj]
theorem tM_someHeld (hn : n ≤ 24) (mt : MT n p a hd sd I) {K : Int32 → Prop} (h1 : (∃ u, u < n ∧ hd u = true) → K 1) (h0 : ¬ (∃ u, u < n ∧ hd u = true) → K 0) : MD_someHeld 100 I K := by
  unfold MD_someHeld MD_someHeld_4
  refine lp_n2 n (fun k x v => v = nI k ∧ ((x = 0 ∧ ∀ u, u < k → hd u = false) ∨ (x = 1 ∧ ∃ u, u < n ∧ hd u = true))) ?_ ?_ (Nat.zero_le n) ⟨rfl, Or.inl ⟨rfl, fun u h => absurd h (Nat.not_lt_zero u)⟩⟩
  · rintro k x v X hk ⟨rfl, hx⟩ go
    unfold MD_someHeld_4b
    dsimp only
    simp only [jrs]
    rw [mt.1, clamp (show k < 2 ^ 31 by omega), mt.2.2.2.1 k hk]
    refine ⟨fun q => absurd q (ge_no hk (by omega)), fun _ => ?_⟩
    rcases hx with ⟨rfl, hz⟩ | ⟨rfl, hex⟩
    · refine ⟨fun q => absurd rfl q, fun _ => ⟨vp_in_nI (by omega) (by omega), fun q => go _ _ ⟨nI_1 k, Or.inl ⟨rfl, fun u hu => ?_⟩⟩, fun q => go _ _ ⟨nI_1 k, Or.inr ⟨rfl, k, hk, ?_⟩⟩⟩⟩
      · by_cases e : u = k
        · subst e
          cases hh : hd u with
          | false => rfl
          | true => rw [hh] at q; exact absurd q (by decide)
        · exact hz u (by omega)
      · cases hh : hd k with
        | true => rfl
        | false => rw [hh] at q; exact absurd rfl q
    · exact ⟨fun _ => go _ _ ⟨nI_1 k, Or.inr ⟨rfl, hex⟩⟩, fun q => absurd q (by decide)⟩
  · rintro x v X ⟨rfl, hx⟩
    unfold MD_someHeld_4b
    dsimp only
    rw [mt.1]
    refine ⟨fun _ => ?_, fun q => absurd (nI_le (Nat.le_refl n) (by omega)) q⟩
    rcases hx with ⟨rfl, hz⟩ | ⟨rfl, hex⟩
    · exact ⟨rfl, h0 (fun ⟨u, hu, hh⟩ => by rw [hz u hu] at hh; cases hh)⟩
    · exact ⟨rfl, h1 hex⟩
end RN
