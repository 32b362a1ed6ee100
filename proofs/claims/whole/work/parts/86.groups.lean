/-! ===== the FULL NET's groups, the class's side ===== -/
theorem getD_app_l {l1 l2 : List Nat} {k : Nat} (h : k < l1.length) : (l1 ++ l2).getD k 0 = l1.getD k 0 := by
  rw [List.getD_eq_getElem?_getD, List.getD_eq_getElem?_getD, List.getElem?_append_left h]
theorem getD_app_r {l1 l2 : List Nat} {k : Nat} (h : l1.length ≤ k) : (l1 ++ l2).getD k 0 = l2.getD (k - l1.length) 0 := by
  rw [List.getD_eq_getElem?_getD, List.getD_eq_getElem?_getD, List.getElem?_append_right h]
/-- who stands at place i, with those BEHIND him -/
def cl (n : Nat) (a : Nat → Nat → Nat) (od : Nat → Nat) (i : Nat) : Nat → Bool := fun w => Gi n a od i (od i) w || decide (w = od i)
def noin (n : Nat) (a : Nat → Nat → Nat) (od : Nat → Nat) (i : Nat) : Prop := ∀ j, j < n → j ≠ i → ∃ w, w < n ∧ cl n a od i w = true ∧ cl n a od j w = false
theorem t_insertGroup {I : jM} {gs : List Nat} {b : Nat} (hd : Held I 63 gs) (hl : I 55 8 = nI gs.length) (hlen : gs.length < 24) (hp : gs.Pairwise (· < ·)) (hb : b < 2 ^ 24) (hall : ∀ x ∈ gs, x < 2 ^ 24) (hni : b ∉ gs) {K : jM → Prop} (hK : ∀ (J : jM) (gs2 : List Nat), (∀ x, x ≠ 55 → x ≠ 63 → J x = I x) → (∀ k, k ≠ 8 → J 55 k = I 55 k) → Held J 63 gs2 → J 55 8 = nI gs2.length → gs2.length = gs.length + 1 → gs2.Pairwise (· < ·) → (∀ x, x ∈ gs2 ↔ x ∈ gs ∨ x = b) → K J) : FN_insertGroup 55 (nI b) I K := by
  unfold FN_insertGroup
  intro v0 e0
  rw [hl] at e0
  unfold FN_insertGroup_5
  refine lp_n2 gs.length (fun k v (J : jM) => v = nI (gs.length - k) ∧ (∀ x, x ≠ 63 → J x = I x) ∧ ∃ l1 l2, gs = l1 ++ l2 ∧ l1.length = gs.length - k ∧ (∀ x ∈ l2, b < x) ∧ (∀ m, m < l1.length → J 63 m = nI (l1.getD m 0)) ∧ ∀ m, m < l2.length → J 63 (l1.length + 1 + m) = nI (l2.getD m 0)) ?_ ?_ (Nat.zero_le _) ⟨by rw [e0]; rfl, fun _ _ => rfl, gs, [], by simp, by simp, by simp, hd, fun m hm => absurd hm (Nat.not_lt_zero m)⟩
  case refine_1 =>
    rintro k v J X hk ⟨rfl, j1, l1, l2, h1, h2, h3, h4, h5⟩ go
    rcases List.eq_nil_or_concat l1 with hnil | ⟨l, z, hcat⟩
    · rw [hnil] at h2; simp at h2; omega
    have hcat : l1 = l ++ [z] := by rw [hcat]; simp
    subst hcat
    rw [List.length_append, List.length_singleton] at h2 h4 h5
    have e1 : gs.length - k = l.length + 1 := by omega
    have hzb : z < 2 ^ 24 := hall z (by rw [h1]; simp)
    have hz : J 63 l.length = nI z := by
      rw [h4 l.length (by omega), getD_app_r (Nat.le_refl _)]; simp
    unfold FN_insertGroup_5b FN_insertGroup_41
    dsimp only
    simp only [jrs]
    rw [e1, nI_pred, clamp (by omega), clamp (by omega), hz, nI_leI (by omega) (by omega)]
    have vl : vp_in (nI l.length) 24 := vp_in_nI (by omega) (by omega)
    have vl1 : vp_in (nI (l.length + 1)) 24 := vp_in_nI (by omega) (by omega)
    refine ⟨fun q => absurd q (nI_nle (by omega) (by omega)), fun _ => ⟨vl, fun q => ⟨vl1, fun J1 f1 J2 f2 => ?_⟩, fun q => ⟨vl, vl1, fun J1 f1 => go _ _ ⟨?_, fun x hx => by rw [f1, jwr_ne hx]; exact j1 x hx, l, z :: l2, by rw [h1]; simp, by omega, ?_, fun m hm => ?_, fun m hm => ?_⟩⟩⟩⟩
    · rw [f1, jwr_ne (by omega), j1 55 (by omega), hl, show (1 : Int32) = nI 1 from rfl, nI_add] at f2
      have hpz := hp
      rw [h1, List.pairwise_append] at hpz
      obtain ⟨pp1, pp2, pp3⟩ := hpz
      have hzlt : z < b := by
        rcases Nat.lt_or_eq_of_le q with h | h
        · exact h
        · exact absurd (by rw [h1, ← h]; simp) hni
      have hless : ∀ x ∈ l ++ [z], x < b := fun x hx => by
        rcases List.mem_append.mp hx with h | h
        · rw [List.pairwise_append] at pp1
          have := pp1.2.2 x h z (by simp)
          omega
        · rw [List.mem_singleton.mp h]; exact hzlt
      refine hK J2 ((l ++ [z]) ++ b :: l2) (fun x h55 h63 => by rw [f2, jwr_ne h55, jwr_ne h63]; exact j1 x h63) (fun f hf => by rw [f2, jwr_at, if_neg (by omega), jwr_ne (by omega), j1 55 (by omega)]) (fun m hm => ?_) ?_ ?_ ?_ (fun x => ?_)
      · rw [f2, jwr_ne (by omega), jwr_at]
        rcases Nat.lt_trichotomy m (l.length + 1) with h | h | h
        · rw [if_neg (by omega), h4 m (by omega), getD_app_l (l1 := l ++ [z]) (by simp; omega)]
        · rw [if_pos ⟨rfl, h⟩, getD_app_r (l1 := l ++ [z]) (by simp; omega)]
          simp [h]
        · rw [if_neg (by omega)]
          have hm2 : m - (l.length + 1 + 1) < l2.length := by simp at hm; omega
          have := h5 (m - (l.length + 1 + 1)) hm2
          rw [show l.length + 1 + 1 + (m - (l.length + 1 + 1)) = m by omega] at this
          rw [this, getD_app_r (l1 := l ++ [z]) (by simp; omega), List.length_append, List.length_singleton, show m - (l.length + 1) = (m - (l.length + 1 + 1)) + 1 by omega, List.getD_cons_succ]
      · rw [f2, jwr_at, if_pos ⟨rfl, rfl⟩]
        congr 1
        rw [h1]; simp; omega
      · rw [h1]; simp; omega
      · rw [List.pairwise_append]
        refine ⟨pp1, List.pairwise_cons.mpr ⟨h3, pp2⟩, fun x hx y hy => ?_⟩
        have hxb := hless x hx
        rcases List.mem_cons.mp hy with h | h
        · omega
        · have := h3 y h; omega
      · rw [h1]
        simp only [List.mem_append, List.mem_cons]
        constructor
        · rintro (h | h | h)
          · exact Or.inl (Or.inl h)
          · exact Or.inr h
          · exact Or.inl (Or.inr h)
        · rintro ((h | h) | h)
          · exact Or.inl h
          · exact Or.inr (Or.inr h)
          · exact Or.inr (Or.inl h)
    · rw [nI_m1, nI_pred]; congr 1; omega
    · intro x hx
      rcases List.mem_cons.mp hx with h | h
      · rw [h]; omega
      · exact h3 x h
    · rw [f1, jwr_at, if_neg (by omega), h4 m (by omega), getD_app_l hm]
    · rw [f1, jwr_at]
      rcases m with _ | m
      · rw [if_pos ⟨rfl, by omega⟩]; rfl
      · rw [if_neg (by omega), List.getD_cons_succ, ← h5 m (by simp at hm; omega)]
        congr 1; omega
  case refine_2 =>
    rintro v J X ⟨rfl, j1, l1, l2, h1, h2, h3, h4, h5⟩
    rw [Nat.sub_self] at h2 ⊢
    have hnil := List.eq_nil_of_length_eq_zero h2
    subst hnil
    rw [List.nil_append] at h1
    subst h1
    unfold FN_insertGroup_5b FN_insertGroup_41
    dsimp only
    simp only [jrs]
    refine ⟨fun _ => ⟨vp_in_nI (by omega) (by omega), fun J1 f1 J2 f2 => ?_⟩, fun q => absurd (by decide) q⟩
    rw [f1, jwr_ne (by omega), j1 55 (by omega), hl, show (1 : Int32) = nI 1 from rfl, nI_add, clamp (by omega)] at f2
    refine hK J2 (b :: gs) (fun x h55 h63 => by rw [f2, jwr_ne h55, jwr_ne h63]; exact j1 x h63) (fun f hf => by rw [f2, jwr_at, if_neg (by omega), jwr_ne (by omega), j1 55 (by omega)]) (fun m hm => ?_) ?_ (by simp) (List.pairwise_cons.mpr ⟨h3, hp⟩) (fun x => ?_)
    · rw [f2, jwr_ne (by omega), jwr_at]
      rcases m with _ | m
      · rw [if_pos ⟨rfl, rfl⟩]; rfl
      · rw [if_neg (by omega), List.getD_cons_succ, ← h5 m (by simp at hm; omega)]
        congr 1; simp; omega
    · rw [f2, jwr_at, if_pos ⟨rfl, rfl⟩]; simp
    · simp only [List.mem_cons]; exact Or.comm
section MG2
variable {n p : Nat} {a : Nat → Nat → Nat} {od pl : Nat → Nat} {I : jM}
theorem t_isWithin (hn : n ≤ 24) (hs : ∀ u w, u < n → w < n → a u w < p ∧ a u w = a w u) (ho : Perm n od pl) (hb : ∀ j, j < n → I 59 (od j) = mk (Gi n a od j (od j))) {u : Nat} (hu : u < n) {K : Int32 → Prop} (h1 : noin n a od (pl u) → K 0) (h2 : ¬ noin n a od (pl u) → K 1) : FN_isWithinAnother 55 (nI u) (nI n) I K := by
  have hbu : ∀ w, w < n → I 59 w ||| mk (fun i => decide (i = w)) = mk (cl n a od (pl w)) := fun w hw => by
    have := hb (pl w) (ho w hw).2.2.1
    rw [(ho w hw).2.2.2] at this
    rw [this, mk_or]
    unfold cl
    rw [(ho w hw).2.2.2]
  unfold FN_isWithinAnother FN_isWithinAnother_14
  simp only [jrs]
  refine ⟨vp_in_nI (by omega) (by omega), fun v3 e3 => ?_⟩
  rw [clamp (by omega), mk_one (by omega), hbu u hu] at e3
  subst e3
  refine lp_n n (fun k (s : Int32) => s = nI k ∧ ∀ w, w < k → w ≠ u → ∃ x, x < n ∧ cl n a od (pl u) x = true ∧ cl n a od (pl w) x = false) ?_ ?_ (Nat.zero_le _) ⟨rfl, fun w hw => absurd hw (Nat.not_lt_zero w)⟩
  · rintro k s X hk ⟨rfl, hv⟩ go
    unfold FN_isWithinAnother_14b
    simp only [jrs]
    rw [clamp (by omega), mk_one (by omega), hbu k hk, mk_diff, nI_eq (by omega) (by omega)]
    refine ⟨fun q => absurd q (ge_no hk (by omega)), fun _ => ⟨fun q => go _ ⟨nI_1 k, fun w hw hwu => hv w (by omega) hwu⟩, fun q => ⟨vp_in_nI (by omega) (by omega), fun q2 => go _ ⟨nI_1 k, fun w hw hwu => ?_⟩, fun q2 => h2 (fun hno => ?_)⟩⟩⟩
    · by_cases e : w = k
      · subst e
        apply Classical.byContradiction
        intro hc
        apply q2
        rw [mk_zero]
        intro i _
        cases h3 : cl n a od (pl u) i with
        | false => rfl
        | true =>
          cases h4 : cl n a od (pl w) i with
          | true => rfl
          | false =>
            refine absurd ⟨i, ?_, h3, h4⟩ hc
            unfold cl at h3
            rw [(ho u hu).2.2.2] at h3
            rcases (Bool.or_eq_true _ _).mp h3 with h5 | h5
            · exact (Gi_gg (od := od) hs (pl u) _ _ h5).2.1
            · rw [of_decide_eq_true h5]; exact hu
      · exact hv w (by omega) hwu
    · obtain ⟨x, hx, x1, x2⟩ := hno (pl k) (ho k hk).2.2.1 (fun e => q (by rw [← (ho k hk).2.2.2, ← (ho u hu).2.2.2, e]))
      have := mk_zero.mp q2 x (by omega)
      rw [x1, x2] at this; cases this
  · rintro s X ⟨rfl, hv⟩
    unfold FN_isWithinAnother_14b
    refine ⟨fun _ => h1 (fun j hj hne => ?_), fun q => absurd (nI_le (Nat.le_refl n) (by omega)) q⟩
    have := hv (od j) (ho j hj).1 (fun e => hne (by rw [← (ho j hj).2.1, e]))
    rw [(ho j hj).2.1] at this
    exact this
def XF3 (n : Nat) (a : Nat → Nat → Nat) (od pl : Nat → Nat) (k : Nat) (I : jM) (gs : List Nat) : Prop := Held I 63 gs ∧ I 55 8 = nI gs.length ∧ gs.length ≤ k ∧ gs.Pairwise (· < ·) ∧ ∀ m, m ∈ gs ↔ ∃ u, u < k ∧ m = mkN (cl n a od (pl u)) 24 ∧ noin n a od (pl u)
theorem t_makeGroups (hn : n ≤ 24) (hs : ∀ u w, u < n → w < n → a u w < p ∧ a u w = a w u) (ho : Perm n od pl) (hb : ∀ j, j < n → I 59 (od j) = mk (Gi n a od j (od j))) {K : jM → Prop} (hK : ∀ (J : jM) (gs : List Nat), (∀ x, x ≠ 55 → x ≠ 63 → J x = I x) → (∀ k, k ≠ 8 → J 55 k = I 55 k) → XF3 n a od pl n J gs → K J) : FN_makeGroups 55 (nI n) I K := by
  unfold FN_makeGroups FN_makeGroups_7
  intro I1 e1
  have hbu : ∀ w, w < n → I 59 w ||| mk (fun i => decide (i = w)) = mk (cl n a od (pl w)) := fun w hw => by
    have := hb (pl w) (ho w hw).2.2.1
    rw [(ho w hw).2.2.2] at this
    rw [this, mk_or]
    unfold cl
    rw [(ho w hw).2.2.2]
  refine lp_n2 n (fun k v J => v = nI k ∧ (∀ x, x ≠ 55 → x ≠ 63 → J x = I x) ∧ (∀ k, k ≠ 8 → J 55 k = I 55 k) ∧ ∃ gs, XF3 n a od pl k J gs) ?_ ?_ (Nat.zero_le _) ⟨rfl, fun x h1 _ => by rw [e1, jwr_ne h1], fun k hk => by rw [e1, jwr_at, if_neg (by omega)], [], fun m hm => absurd hm (Nat.not_lt_zero m), by rw [e1, jwr_at, if_pos ⟨rfl, rfl⟩]; rfl, Nat.le_refl _, List.Pairwise.nil, fun m => Iff.intro (fun h => absurd h List.not_mem_nil) (fun ⟨u, hu, _⟩ => absurd hu (Nat.not_lt_zero u))⟩
  · rintro k v J X hk ⟨rfl, j1, j2, gs, g1, g2, g3, g4, g5⟩ go
    unfold FN_makeGroups_7b
    dsimp only
    simp only [jrs]
    have hbJ : ∀ j, j < n → J 59 (od j) = mk (Gi n a od j (od j)) := fun j hj => by rw [j1 59 (by omega) (by omega)]; exact hb j hj
    refine ⟨fun q => absurd q (ge_no hk (by omega)), fun _ => t_isWithin hn hs ho hbJ hk (fun hno => ⟨fun q => absurd rfl q, fun _ => ⟨vp_in_nI (by omega) (by omega), ?_⟩⟩) (fun hno => ⟨fun _ => go _ _ ⟨nI_1 k, j1, j2, gs, g1, g2, by omega, g4, fun m => ?_⟩, fun q => absurd q (by decide)⟩)⟩
    · rw [clamp (by omega), mk_one (by omega), j1 59 (by omega) (by omega), hbu k hk]
      show FN_insertGroup 55 (nI (mkN (cl n a od (pl k)) 24)) J _
      refine t_insertGroup g1 g2 (by omega) g4 (mkN_lt _ 24) (fun x hx => ?_) (fun hin => ?_) (fun J2 gs2 k1 k2 k3 k4 k5 k6 k7 => go _ _ ⟨nI_1 k, fun x h1 h2 => by rw [k1 x h1 h2]; exact j1 x h1 h2, fun f hf => by rw [k2 f hf]; exact j2 f hf, gs2, k3, k4, by omega, k6, fun m => ?_⟩)
      · obtain ⟨u, hu, e, -⟩ := (g5 x).mp hx
        rw [e]; exact mkN_lt _ 24
      · obtain ⟨u, hu, e, -⟩ := (g5 _).mp hin
        obtain ⟨w, hw, w1, w2⟩ := hno (pl u) (ho u (by omega)).2.2.1 (fun e => by
          have : u = k := by rw [← (ho u (by omega)).2.2.2, ← (ho k hk).2.2.2, e]
          omega)
        have := congrArg (fun z => z.testBit w) e
        simp only [mkN_bit, w1, w2] at this
        rw [decide_eq_true (show w < 24 by omega)] at this
        cases this
      · rw [k7 m, g5 m]
        constructor
        · rintro (⟨u, hu, h⟩ | h)
          · exact ⟨u, by omega, h⟩
          · exact ⟨k, by omega, h, hno⟩
        · rintro ⟨u, hu, h1, h2⟩
          by_cases e : u = k
          · subst e; exact Or.inr h1
          · exact Or.inl ⟨u, by omega, h1, h2⟩
    · rw [g5 m]
      constructor
      · rintro ⟨u, hu, h⟩
        exact ⟨u, by omega, h⟩
      · rintro ⟨u, hu, h1, h2⟩
        by_cases e : u = k
        · subst e; exact absurd h2 hno
        · exact ⟨u, by omega, h1, h2⟩
  · rintro v J X ⟨rfl, j1, j2, gs, x3⟩
    unfold FN_makeGroups_7b
    dsimp only
    exact ⟨fun _ => hK J gs j1 j2 x3, fun q => absurd (nI_le (Nat.le_refl n) (by omega)) q⟩
end MG2
/-- fullNet() -/
theorem t_fullNet {n p : Nat} {a : Nat → Nat → Nat} {hd : Nat → Bool} {od pl sd : Nat → Nat} {I : jM} (hn : n ≤ 24) (hs : ∀ u w, u < n → w < n → a u w < p ∧ a u w = a w u) (ho : Perm n od pl) (xt : XT n p a hd sd I) (xr : XR n od pl I) (xf : XF n a od pl I) {K : Nat → jM → Prop} (hK : ∀ J : jM, (∀ x, x ≠ 0 → x < 55 ∨ 63 < x → J x = I x) → (∀ k, k ≠ 9 → J 0 k = I 0 k) → J 0 9 = 1 → XF n a od pl J → K 55 J) : OO_fullNet 0 I K := by
  unfold OO_fullNet
  simp only [jrs]
  refine ⟨fun q => ?_, fun q => ?_⟩
  · refine hK I (fun _ _ _ => rfl) (fun _ _ => rfl) ?_ xf
    rcases xf with h | h
    · exact absurd h q
    · exact h.1
  · refine t_reckon1 hn hs ho xt xr (fun J0 j1 x1 => ?_)
    obtain ⟨x11, x12, x13, x14⟩ := x1
    refine t_makeTree hn hs ho (xr.fr (fun c _ _ => j1 c (by omega))) x14 (fun J2 k1 x2 => ?_)
    rw [k1 30 (by omega), j1 30 (by omega), xr.1]
    refine t_makeGroups hn hs ho (fun j hj => by rw [k1 59 (by omega)]; exact x14 j hj) (fun J4 gs l1 l2 x3 J5 f5 => ?_)
    have e5 : ∀ x, x ≠ 0 → J5 x = J4 x := fun x hx => by rw [f5, jwr_ne hx]
    have e0 : ∀ x, x ≠ 55 → x ≠ 63 → x ≠ 60 → x ≠ 61 → x ≠ 62 → x ≠ 0 → J5 x = J0 x := fun x h1 h2 h3 h4 h5 h6 => by
      rw [e5 x h6, l1 x h1 h2, k1 x (by omega)]
    have h9 : J5 0 9 = 1 := by rw [f5, jwr_at, if_pos ⟨rfl, rfl⟩]
    refine hK J5 (fun x hx hr => by rw [e0 x (by omega) (by omega) (by omega) (by omega) (by omega) hx]; exact j1 x (by omega)) (fun k hk => by rw [f5, jwr_at, if_neg (by omega), l1 0 (by omega) (by omega), k1 0 (by omega), j1 0 (by omega)]) h9 (Or.inr ⟨h9, ?_⟩)
    obtain ⟨g1, g2, g3, g4, g5⟩ := x3
    have e55 : ∀ k, k ≠ 8 → J5 55 k = J0 55 k := fun k hk => by rw [e5 55 (by omega), l2 k hk, k1 55 (by omega)]
    have e60 : ∀ x, 60 ≤ x → x ≤ 62 → J5 x = J2 x := fun x h1 h2 => by rw [e5 x (by omega), l1 x (by omega) (by omega)]
    refine ⟨x11.fr (e0 58 (by omega) (by omega) (by omega) (by omega) (by omega) (by omega)), by rw [e55 7 (by omega)]; exact x12, by rw [e55 9 (by omega)]; exact x13, fun i hi => by rw [e0 59 (by omega) (by omega) (by omega) (by omega) (by omega) (by omega)]; exact x14 i hi, fun i hi => ?_, fun i hi => ?_, gs, g1.fr (e5 63 (by omega)), by rw [e5 55 (by omega)]; exact g2, g4, fun m => ?_⟩
    · rw [e60 60 (by omega) (by omega), e60 61 (by omega) (by omega)]
      exact x2.1 i (Nat.zero_le _) hi
    · rw [e60 62 (by omega) (by omega), x2.2 i hi]
      exact mk_ext (fun u _ => by simp)
    · rw [g5 m]
      constructor
      · rintro ⟨u, hu, h1, h2⟩
        exact ⟨pl u, (ho u hu).2.2.1, h1, h2⟩
      · rintro ⟨i, hi, h1, h2⟩
        refine ⟨od i, (ho i hi).1, ?_, ?_⟩
        · rw [(ho i hi).2.1]; exact h1
        · rw [(ho i hi).2.1]; exact h2
