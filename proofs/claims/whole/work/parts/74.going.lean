/-! ===== begin, out, back ===== -/
section GL
variable {n p : Nat} {a : Nat → Nat → Nat} {hd : Nat → Bool} {sd : Nat → Nat} {gn : List Nat} {I : jM}
theorem tM_begin (hn : n ≤ 24) (mt : MT n p a hd sd I) (hlt : ∀ u w, u < n → w < n → a u w < 2 ^ 31) {K : Int32 → jM → Prop} (hK : ∀ J : jM, (∀ x, x ≠ 100 → x ≠ 106 → x ≠ 113 → J x = I x) → (∀ k, k ≠ 15 → J 100 k = I 100 k) → MG n a [] J → K (nI n) J) : MD_begin 100 I K := by
  unfold MD_begin
  refine tM_beginNet hn mt (fun J j1 j2 J1 f1 => ?_) hlt
  have q1 : ∀ x, x ≠ 100 → x ≠ 106 → J1 x = I x := fun x h1 h2 => by rw [f1, jwr_ne h1]; exact j1 x h2
  have q2 : ∀ k, k ≠ 15 → J1 100 k = I 100 k := fun k hk => by rw [f1, jwr_at, if_neg (by omega), j1 100 (by omega)]
  have q3 : J1 100 15 = 0 := by rw [f1, jwr_at, if_pos ⟨rfl, rfl⟩]
  have q4 : J1 106 = J 106 := by rw [f1, jwr_ne (by omega)]
  unfold MD_begin_11
  refine lp_n2 n (fun k v J2 => v = nI k ∧ (∀ x, x ≠ 113 → J2 x = J1 x) ∧ ∀ u, u < k → J2 113 u = mk (adj n a u)) ?_ ?_ (Nat.zero_le _) ⟨rfl, fun _ _ => rfl, fun u h => absurd h (Nat.not_lt_zero u)⟩
  · rintro k v J2 X hk ⟨rfl, k1, k2⟩ go
    unfold MD_begin_11b
    dsimp only
    simp only [jrs]
    rw [k1 100 (by omega), q2 0 (by omega), mt.1]
    refine ⟨fun q => absurd q (ge_no hk (by omega)), fun _ => ⟨vp_in_nI (by omega) (by omega), vp_in_nI (by omega) (by omega), fun J3 f3 => go _ _ ⟨nI_1 k, fun x hx => by rw [f3, jwr_ne hx]; exact k1 x hx, fun u hu => ?_⟩⟩⟩
    rw [f3, clamp (by omega), jwr_at]
    by_cases e : u = k
    · subst e
      rw [if_pos ⟨rfl, rfl⟩, k1 106 (by omega), q4]; exact j2 u hk
    · rw [if_neg (by omega)]; exact k2 u (by omega)
  · rintro v J2 X ⟨rfl, k1, k2⟩
    unfold MD_begin_11b
    dsimp only
    rw [k1 100 (by omega), q2 0 (by omega), mt.1]
    refine ⟨fun _ => hK J2 (fun x h1 h2 h3 => (k1 x h3).trans (q1 x h1 h2)) (fun k hk => by rw [k1 100 (by omega)]; exact q2 k hk) ⟨by rw [k1 100 (by omega), q3]; rfl, fun k hk => by simp at hk, fun u hu => k2 u hu, fun k hk => by simp at hk⟩, fun q => absurd (nI_le (Nat.le_refl _) (by omega)) q⟩
theorem tM_out (hn1 : 1 ≤ n) (hn : n ≤ 24) (hs : ∀ u w, u < n → w < n → a u w < p ∧ a u w = a w u) (hg : gn.Nodup) (hb : ∀ u ∈ gn, u < n) (mt : MT n p a hd sd I) (mg : MG n a gn I) {u : Nat} (hu : u < n) (hun : u ∉ gn) {K : Int32 → jM → Prop} (hK : ∀ J : jM, (∀ x, x ≠ 100 → x ≠ 111 → x ≠ 112 → x ≠ 113 → J x = I x) → (∀ k, k ≠ 15 → J 100 k = I 100 k) → MG n a (gn ++ [u]) J → K (nI (ms (elL (adj n a) gn) u)) J) : MD_out 100 (nI u) I K := by
  have hlen := len_lt hg hb hu hun
  have hG := gg_elL hs gn
  unfold MD_out
  refine tM_lacks hn1 hn hg hb mt.1 mg hu ?_
  rw [if_neg hun]
  refine ⟨fun _ => ?_, fun q => absurd (by decide) q⟩
  unfold MD_out_18
  refine lp_n2 n (fun k v J => v = nI k ∧ (∀ x, x ≠ 112 → J x = I x) ∧ (∀ j, j < 24 * gn.length → J 112 j = I 112 j) ∧ ∀ w, w < k → J 112 (24 * gn.length + w) = mk (mlL (adj n a) [] gn w)) ?_ ?_ (Nat.zero_le _) ⟨rfl, fun _ _ => rfl, fun _ _ => rfl, fun w h => absurd h (Nat.not_lt_zero w)⟩
  · rintro k v J X hk ⟨rfl, j1, j2, j3⟩ go
    unfold MD_out_18b
    dsimp only
    simp only [jrs]
    rw [j1 100 (by omega), mt.1, mg.1, show (24 : Int32) = nI 24 from rfl, pk_mul, nI_add]
    refine ⟨fun q => absurd q (ge_no hk (by omega)), fun _ => ⟨vp_in_nI (by omega) (by omega), vp_in_nI (by omega) (by omega), fun J1 f1 => go _ _ ⟨nI_1 k, fun x hx => by rw [f1, jwr_ne hx]; exact j1 x hx, fun j hj => ?_, fun w hw => ?_⟩⟩⟩
    · rw [f1, clamp (by omega), jwr_at, if_neg (by omega)]; exact j2 j hj
    · rw [f1, clamp (by omega), jwr_at]
      by_cases e : w = k
      · subst e
        rw [if_pos ⟨rfl, rfl⟩, clamp (by omega), j1 113 (by omega)]; exact mg.2.2.1 w hk
      · rw [if_neg (by omega)]; exact j3 w (by omega)
  · rintro v J X ⟨rfl, j1, j2, j3⟩
    unfold MD_out_18b
    dsimp only
    rw [j1 100 (by omega), mt.1]
    refine ⟨fun _ => ?_, fun q => absurd (nI_le (Nat.le_refl _) (by omega)) q⟩
    have mgJ : MG n a gn J := ⟨by rw [j1 100 (by omega)]; exact mg.1, mg.2.1.fr (j1 111 (by omega)), fun w hw => by rw [j1 113 (by omega)]; exact mg.2.2.1 w hw, fun k hk w hw => by rw [j2 _ (by omega)]; exact mg.2.2.2 k hk w hw⟩
    refine tM_around hn hs hg hb mgJ hu hun ?_
    simp only [jrs]
    have hnb : ∀ w, elL (adj n a) gn u w = true → w < n ∧ w ∉ gn := fun w hw => by
      have h1 := hG u w hw
      refine ⟨h1.2.1, ?_⟩
      have := h1.2.2.2.1
      unfold lvL at this
      simpa using this
    refine tM_fillsOf (c := 113) (rw1 := mlL (adj n a) [] gn) (by decide +kernel) (fun w hw hnw => by rw [j1 113 (by omega)]; exact mg.2.2.1 w (hnb w hnw).1) ?_
    have ems : fb_sm (fun w => if elL (adj n a) gn u w then ct (fun y => elL (adj n a) gn u y && !mlL (adj n a) [] gn w y && !decide (y = w)) else 0) 24 / 2 = ms (elL (adj n a) gn) u := by
      unfold ms
      congr 1
      apply fb_sm_cong
      intro w _
      by_cases hw : elL (adj n a) gn u w = true
      · rw [if_pos hw, if_pos hw]
        apply ct_cong
        intro y _
        by_cases hy : elL (adj n a) gn u y = true
        · have h1 := near_eq hs hg (hnb w hw).2 y
          have h2 := (hnb y hy).2
          simp [h2] at h1
          rw [h1]
        · simp [hy]
      · rw [if_neg hw, if_neg hw]
    rw [ems]
    refine ⟨?_, fun J1 f1 J2 f2 => ?_⟩
    · rw [mg.1]; exact vp_in_nI (by omega) (by omega)
    rw [mg.1, clamp (by omega)] at f1
    have g1 : ∀ x, x ≠ 100 → x ≠ 111 → J2 x = J x := fun x h1 h2 => by rw [f2, jwr_ne h1, f1, jwr_ne h2]
    have g2 : ∀ k, k ≠ 15 → J2 100 k = I 100 k := fun k hk => by rw [f2, jwr_at, if_neg (by omega), f1, jwr_ne (by omega), j1 100 (by omega)]
    have g3 : J2 100 15 = nI (gn.length + 1) := by rw [f2, jwr_at, if_pos ⟨rfl, rfl⟩, f1, jwr_ne (by omega), j1 100 (by omega), mg.1, nI_1]
    have g4 : ∀ k, J2 111 k = if k = gn.length then nI u else I 111 k := fun k => by
      rw [f2, jwr_ne (by omega), f1, jwr_at, j1 111 (by omega)]
      by_cases h : k = gn.length <;> simp [h]
    refine tM_joinAll (n := n) (c := 113) (rw1 := mlL (adj n a) [] gn) (by decide +kernel) (fun w hw => by rw [g1 113 (by omega) (by omega), j1 113 (by omega)]; exact mg.2.2.1 w hw) hn (fun w hw => (hnb w hw).1) (fun J3 k1 k2 => hK J3 (fun x h1 h2 h3 h4 => by rw [k1 x h4, g1 x h1 h2, j1 x h3]) (fun k hk => by rw [k1 100 (by omega)]; exact g2 k hk) ⟨?_, held_app (fun k hk => ?_) ?_, fun w hw => ?_, fun k hk w hw => ?_⟩)
    · rw [k1 100 (by omega), g3, List.length_append]; rfl
    · rw [k1 111 (by omega), g4, if_neg (by omega)]; exact mg.2.1 k hk
    · rw [k1 111 (by omega), g4, if_pos rfl]
    · rw [k2 w hw, mlL_app]
      have hf : (fun w => mlL (adj n a) [] gn u w && !decide (w = u) && !decide (w ∈ [] ++ gn)) = elL (adj n a) gn u := by
        funext x
        rw [← near_eq hs hg hun x]
        by_cases hx : x = u
        · subst hx
          have h0 : (mlL (adj n a) [] gn x x && !decide (x ∈ gn)) = false := by
            rw [near_eq hs hg hun x]
            cases hh : elL (adj n a) gn x x with
            | true => exact absurd rfl (hG x x hh).2.2.2.2.1
            | false => rfl
          rw [h0]; simp
        · simp [hx]
      rw [hf]
    · rw [List.length_append] at hk
      simp at hk
      rw [k1 112 (by omega), g1 112 (by omega) (by omega)]
      by_cases e : k = gn.length
      · subst e
        rw [j3 w hw, List.take_append_of_le_length (Nat.le_refl _), List.take_length]
      · rw [j2 _ (by omega), List.take_append_of_le_length (by omega)]
        exact mg.2.2.2 k (by omega) w hw
theorem tM_back {l : List Nat} {u : Nat} (hn : n ≤ 24) (hg : (l ++ [u]).Nodup) (hb : ∀ x ∈ l ++ [u], x < n) (mt : MT n p a hd sd I) (mg : MG n a (l ++ [u]) I) {K : Int32 → jM → Prop} (hK : ∀ J : jM, (∀ x, x ≠ 100 → x ≠ 113 → J x = I x) → (∀ k, k ≠ 15 → J 100 k = I 100 k) → MG n a l J → K (nI u) J) : MD_back 100 I K := by
  have hnd := (List.nodup_append.mp hg)
  have hul : u ∉ l := fun h => hnd.2.2 u h u (by simp) rfl
  have hlen := len_lt (n := n) hnd.1 (fun x hx => hb x (List.mem_append_left _ hx)) (hb u (by simp)) hul
  have hc : I 100 15 = nI (l.length + 1) := by rw [mg.1, List.length_append]; rfl
  unfold MD_back
  rw [hc]
  refine ⟨fun _ J f => ?_, fun q => absurd q (nI_ne0 (by omega) (by omega))⟩
  rw [show (1 : Int32) = nI 1 from rfl, pk_sub (by omega), Nat.add_sub_cancel] at f
  have q1 : ∀ x, x ≠ 100 → J x = I x := fun x hx => by rw [f, jwr_ne hx]
  have q2 : ∀ k, k ≠ 15 → J 100 k = I 100 k := fun k hk => by rw [f, jwr_at, if_neg (by omega)]
  have q3 : J 100 15 = nI l.length := by rw [f, jwr_at, if_pos ⟨rfl, rfl⟩]
  unfold MD_back_22
  refine lp_n2 n (fun k v J2 => v = nI k ∧ (∀ x, x ≠ 113 → J2 x = J x) ∧ ∀ w, w < k → J2 113 w = mk (mlL (adj n a) [] l w)) ?_ ?_ (Nat.zero_le _) ⟨rfl, fun _ _ => rfl, fun w h => absurd h (Nat.not_lt_zero w)⟩
  · rintro k v J2 X hk ⟨rfl, k1, k2⟩ go
    unfold MD_back_22b
    dsimp only
    simp only [jrs]
    rw [k1 100 (by omega), q2 0 (by omega), mt.1, q3, show (24 : Int32) = nI 24 from rfl, pk_mul, nI_add]
    refine ⟨fun q => absurd q (ge_no hk (by omega)), fun _ => ⟨vp_in_nI (by omega) (by omega), vp_in_nI (by omega) (by omega), fun J3 f3 => go _ _ ⟨nI_1 k, fun x hx => by rw [f3, jwr_ne hx]; exact k1 x hx, fun w hw => ?_⟩⟩⟩
    rw [f3, clamp (by omega), jwr_at]
    by_cases e : w = k
    · subst e
      rw [if_pos ⟨rfl, rfl⟩, clamp (by omega), k1 112 (by omega), q1 112 (by omega), mg.2.2.2 l.length (by rw [List.length_append]; simp) w hk, List.take_append_of_le_length (Nat.le_refl _), List.take_length]
    · rw [if_neg (by omega)]; exact k2 w (by omega)
  · rintro v J2 X ⟨rfl, k1, k2⟩
    unfold MD_back_22b
    dsimp only
    simp only [jrs]
    rw [k1 100 (by omega), q2 0 (by omega), mt.1, q3]
    refine ⟨fun _ => ⟨vp_in_nI (by omega) (by omega), ?_⟩, fun q => absurd (nI_le (Nat.le_refl _) (by omega)) q⟩
    rw [clamp (by omega), k1 111 (by omega), q1 111 (by omega), mg.2.1 l.length (by rw [List.length_append]; simp), getD_last]
    refine hK J2 (fun x h1 h2 => (k1 x h2).trans (q1 x h1)) (fun k hk => by rw [k1 100 (by omega)]; exact q2 k hk) ⟨by rw [k1 100 (by omega)]; exact q3, fun k hk => ?_, k2, fun k hk w hw => ?_⟩
    · rw [k1 111 (by omega), q1 111 (by omega), mg.2.1 k (by rw [List.length_append]; omega), getD_appL hk]
    · rw [k1 112 (by omega), q1 112 (by omega), mg.2.2.2 k (by rw [List.length_append]; omega) w hw, List.take_append_of_le_length (by omega)]
end GL
