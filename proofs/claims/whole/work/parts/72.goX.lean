/-! ===== GOING, the class's side ===== -/
theorem getD_appL {l r : List Nat} {k : Nat} (h : k < l.length) : (l ++ r).getD k 0 = l.getD k 0 := by
  rw [List.getD_eq_getElem?_getD, List.getD_eq_getElem?_getD, List.getElem?_append_left h]
theorem getD_last (l : List Nat) (u : Nat) : (l ++ [u]).getD l.length 0 = u := by
  rw [List.getD_eq_getElem?_getD, List.getElem?_append_right (Nat.le_refl _)]; simp
section GX
variable {n p : Nat} {a : Nat → Nat → Nat} {hd : Nat → Bool} {sd : Nat → Nat} {gn : List Nat} {I : jM}
theorem XG.nk (h : XG n a gn I) : NK 65 66 n (lvL gn) (elL (adj n a) gn) I := ⟨h.2.2.1, h.2.2.2.1, fun u hu hl => h.2.2.2.2 u hu (by
  unfold lvL at hl
  simpa using hl)⟩
theorem XG.of {J : jM} (nk : NK 65 66 n (lvL gn) (elL (adj n a) gn) J) (hc : J 64 2 = nI gn.length) (hh : Held J 67 gn) : XG n a gn J := ⟨hc, hh, nk.1, nk.2.1, fun u hu hg => nk.2.2 u hu (by unfold lvL; simpa using hg)⟩
theorem t_restart (hn : n ≤ 24) (xt : XT n p a hd sd I) {K : jM → Prop} (hK : ∀ J : jM, (∀ x, x < 64 ∨ 67 < x → J x = I x) → XG n a [] J → K J) : GO_restart 64 1 I K := by
  unfold GO_restart
  simp only [jrs]
  refine t_take okh65 hn xt (fun J j1 j2 nk J1 f1 => hK J1 (fun x hx => ?_) ?_)
  · rw [f1, jwr_ne (by omega)]; exact j1 x (by omega) (by omega)
  · refine XG.of (gn := []) ?_ (by rw [f1, jwr_at, if_pos ⟨rfl, rfl⟩]; rfl) (fun k hk => by simp at hk)
    rw [lvL_nil]
    show NK 65 66 n (fun _ => true) (adj n a) J1
    obtain ⟨q1, q2, q3⟩ := nk
    have e65 : J1 65 = J 65 := by rw [f1, jwr_ne (by omega)]
    have e66 : J1 66 = J 66 := by rw [f1, jwr_ne (by omega)]
    exact ⟨by rw [e65]; exact q1, by rw [e65]; exact q2, fun u hu hl => by rw [e66]; exact q3 u hu hl⟩
theorem len_lt (hg : gn.Nodup) (hb : ∀ u ∈ gn, u < n) {u : Nat} (hu : u < n) (hn : u ∉ gn) : gn.length < n := by
  have h : (gn ++ [u]).length ≤ n := by
    refine fb_holes n (gn ++ [u]).length (fun i => (gn ++ [u]).getD i 0) (fun i hi => ?_) (fun i j hij hj e => ?_)
    · have := List.getElem_mem hi
      have e1 : (gn ++ [u]).getD i 0 = (gn ++ [u])[i] := by rw [List.getD_eq_getElem?_getD, List.getElem?_eq_getElem hi]; rfl
      rw [e1]
      rcases List.mem_append.mp this with h1 | h1
      · exact hb _ h1
      · rw [List.mem_singleton.mp h1]; exact hu
    · have hnd : (gn ++ [u]).Nodup := by
        rw [List.nodup_append]
        refine ⟨hg, by simp, fun x hx y hy e => ?_⟩
        rw [List.mem_singleton.mp hy] at e
        exact hn (e ▸ hx)
      have hi : i < (gn ++ [u]).length := by omega
      have e1 : (gn ++ [u]).getD i 0 = (gn ++ [u])[i] := by rw [List.getD_eq_getElem?_getD, List.getElem?_eq_getElem hi]; rfl
      have e2 : (gn ++ [u]).getD j 0 = (gn ++ [u])[j] := by rw [List.getD_eq_getElem?_getD, List.getElem?_eq_getElem hj]; rfl
      have e3 : (gn ++ [u])[i] = (gn ++ [u])[j] := by rw [← e1, ← e2]; exact e
      have := (List.getElem?_inj (j := j) hi hnd).mp (by rw [List.getElem?_eq_getElem hi, List.getElem?_eq_getElem hj, e3])
      omega
  rw [List.length_append] at h
  simp at h
  omega
theorem held_app {c : Nat} {J : jM} {l : List Nat} {u : Nat} (h : ∀ k, k < l.length → J c k = nI (l.getD k 0)) (h2 : J c l.length = nI u) : Held J c (l ++ [u]) := by
  intro k hk
  rw [List.length_append] at hk
  simp at hk
  by_cases e : k < l.length
  · rw [h k e, getD_appL e]
  · have e2 : k = l.length := by omega
    subst e2
    rw [h2]
    congr 1
    rw [getD_last]
theorem t_sendOut (hn : n ≤ 24) (hs : ∀ u w, u < n → w < n → a u w < p ∧ a u w = a w u) (hg : gn.Nodup) (hb : ∀ u ∈ gn, u < n) (xg : XG n a gn I) {u : Nat} (hu : u < n) (hun : u ∉ gn) {K : jM → Prop} (hK : ∀ J : jM, (∀ x, x < 64 ∨ 67 < x → J x = I x) → XG n a (gn ++ [u]) J → K J) : GO_sendOut 64 (nI u) I K := by
  have hlen := len_lt hg hb hu hun
  unfold GO_sendOut
  simp only [jrs]
  rw [xg.1]
  refine ⟨fun q => absurd q (nI_ge (a := gn.length) (b := 24) (by omega) (by omega)), fun _ => ⟨vp_in_nI (by omega) (by omega), fun I1 e1 I2 e2 => ?_⟩⟩
  rw [clamp (by omega)] at e1
  have q1 : ∀ x, x ≠ 64 → x ≠ 67 → I2 x = I x := fun x h1 h2 => by rw [e2, jwr_ne h1, e1, jwr_ne h2]
  have c1 : I2 64 2 = nI (gn.length + 1) := by
    rw [e2, jwr_at, if_pos ⟨rfl, rfl⟩, e1, jwr_at, if_neg (by omega), xg.1, nI_1]
  have c2 : ∀ k, I2 67 k = if k = gn.length then nI u else I 67 k := fun k => by
    rw [e2, jwr_ne (by omega), e1, jwr_at]
    by_cases h : k = gn.length <;> simp [h]
  have nk0 := xg.nk
  have nk : NK 65 66 n (lvL gn) (elL (adj n a) gn) I2 := ⟨by rw [q1 65 (by omega) (by omega)]; exact nk0.1, by rw [q1 65 (by omega) (by omega)]; exact nk0.2.1, fun w hw hl => by rw [q1 66 (by omega) (by omega)]; exact nk0.2.2 w hw hl⟩
  refine t_remove okh65 nk (gg_elL hs gn) hu (by unfold lvL; simpa using hun) hn (fun J j1 j2 nk2 => hK J (fun x hx => (j1 x (by omega) (by omega)).trans (q1 x (by omega) (by omega))) ?_)
  rw [lvL_app, ← elL_app] at nk2
  refine XG.of nk2 ?_ (held_app (fun k hk => ?_) ?_)
  · rw [j1 64 (by omega) (by omega), c1, List.length_append]; rfl
  · rw [j1 67 (by omega) (by omega), c2 k, if_neg (by omega)]; exact xg.2.1 k hk
  · rw [j1 67 (by omega) (by omega), c2, if_pos rfl]
theorem t_undo {l : List Nat} {u : Nat} (hn : n ≤ 24) (hs : ∀ u w, u < n → w < n → a u w < p ∧ a u w = a w u) (hg : (l ++ [u]).Nodup) (hb : ∀ x ∈ l ++ [u], x < n) (xt : XT n p a hd sd I) (xg : XG n a (l ++ [u]) I) {K : Int32 → jM → Prop} (hK : ∀ J : jM, (∀ x, x < 64 ∨ 67 < x → J x = I x) → XG n a l J → K (nI u) J) : GO_undo 64 1 I K := by
  have hnd := (List.nodup_append.mp hg)
  have hul : u ∉ l := fun h => hnd.2.2 u h u (by simp) rfl
  have hlen := len_lt (n := n) hnd.1 (fun x hx => hb x (List.mem_append_left _ hx)) (hb u (by simp)) hul
  have hc : I 64 2 = nI (l.length + 1) := by rw [xg.1, List.length_append]; rfl
  have hld : ∀ k, k < l.length → I 67 k = nI (l.getD k 0) := fun k hk => by
    rw [xg.2.1 k (by rw [List.length_append]; omega), getD_appL hk]
  have hlu : I 67 l.length = nI u := by
    rw [xg.2.1 l.length (by rw [List.length_append]; simp), getD_last]
  unfold GO_undo GO_undo_31
  simp only [jrs]
  rw [hc]
  refine ⟨fun _ I1 e1 => ?_, fun q => absurd (nI_le (a := 1) (by omega) (by omega)) q⟩
  rw [show (1 : Int32) = nI 1 from rfl, pk_sub (by omega), Nat.add_sub_cancel] at e1
  have q1 : ∀ x, x ≠ 64 → I1 x = I x := fun x hx => by rw [e1, jwr_ne hx]
  have c1 : I1 64 2 = nI l.length := by rw [e1, jwr_at, if_pos ⟨rfl, rfl⟩]
  refine t_take okh65 hn (xt.fr (fun c h1 h2 => q1 c (by omega)) hn) (fun J0 j1 j2 nk => ?_)
  refine lp_n2 l.length (fun k v J => v = nI k ∧ (∀ x, x ≠ 65 → x ≠ 66 → J x = J0 x) ∧ NK 65 66 n (lvL (l.take k)) (elL (adj n a) (l.take k)) J) ?_ ?_ (Nat.zero_le _) ⟨rfl, fun _ _ _ => rfl, by rw [List.take_zero, lvL_nil]; exact nk⟩
  · rintro k v J X hk ⟨rfl, k1, k2⟩ go
    unfold GO_undo_31b
    simp only [jrs]
    rw [k1 64 (by omega) (by omega), j1 64 (by omega) (by omega), c1]
    refine ⟨fun q => absurd q (ge_no hk (by omega)), fun _ => ⟨vp_in_nI (by omega) (by omega), ?_⟩⟩
    rw [clamp (by omega), k1 67 (by omega) (by omega), j1 67 (by omega) (by omega), q1 67 (by omega), hld k hk]
    have hx : l.getD k 0 = l[k] := by rw [List.getD_eq_getElem?_getD, List.getElem?_eq_getElem hk]; rfl
    have ht : l.take (k + 1) = l.take k ++ [l.getD k 0] := by rw [hx, List.take_succ, List.getElem?_eq_getElem hk]; rfl
    have hmem : l.getD k 0 ∈ l := by rw [hx]; exact List.getElem_mem hk
    have hnot : l.getD k 0 ∉ l.take k := fun hm => by
      have hn2 : (l.take (k + 1)).Nodup := (List.take_sublist _ _).nodup hnd.1
      rw [ht, List.nodup_append] at hn2
      exact hn2.2.2 _ hm _ (by simp) rfl
    refine t_remove okh65 k2 (gg_elL hs _) (hb _ (List.mem_append_left _ hmem)) (by unfold lvL; simpa using hnot) hn (fun J2 m1 m2 nk2 => go _ _ ⟨nI_1 k, fun x h1 h2 => (m1 x h1 h2).trans (k1 x h1 h2), ?_⟩)
    rw [ht, ← lvL_app, elL_app]
    exact nk2
  · rintro v J X ⟨rfl, k1, k2⟩
    unfold GO_undo_31b
    simp only [jrs]
    rw [k1 64 (by omega) (by omega), j1 64 (by omega) (by omega), c1]
    refine ⟨fun _ => ⟨vp_in_nI (by omega) (by omega), ?_⟩, fun q => absurd (nI_le (Nat.le_refl _) (by omega)) q⟩
    rw [clamp (by omega), k1 67 (by omega) (by omega), j1 67 (by omega) (by omega), q1 67 (by omega), hlu]
    rw [List.take_length] at k2
    refine hK J (fun x hx => ?_) (XG.of k2 ?_ (fun k hk => ?_))
    · rw [k1 x (by omega) (by omega), j1 x (by omega) (by omega), q1 x (by omega)]
    · rw [k1 64 (by omega) (by omega), j1 64 (by omega) (by omega), c1]
    · rw [k1 67 (by omega) (by omega), j1 67 (by omega) (by omega), q1 67 (by omega)]; exact hld k hk
end GX
