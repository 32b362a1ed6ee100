/-! ===== GOING, the reference's side ===== -/
theorem adj_self (n : Nat) (a : Nat → Nat → Nat) (u : Nat) : adj n a u u = false := by unfold adj; simp
/-- the reference's rows and the net agree about those that live -/
theorem ml_agree {n : Nat} : ∀ (l : List Nat) (g1 g2 : Gr) (o : List Nat), GG n (lvL o) g2 → (∀ x y, x ∉ o → y ∉ o → g1 x y = g2 x y) → (o ++ l).Nodup → ∀ x y, x ∉ o ++ l → y ∉ o ++ l → mlL g1 o l x y = elL g2 l x y
  | [], g1, g2, o, _, h, _, x, y, hx, hy => by
    rw [List.append_nil] at hx hy
    exact h x y hx hy
  | u :: l, g1, g2, o, hg, h, hnd, x, y, hx, hy => by
    have e1 : o ++ u :: l = (o ++ [u]) ++ l := by simp
    have huo : u ∉ o := fun hc => by
      rw [List.nodup_append] at hnd
      exact hnd.2.2 u hc u (by simp) rfl
    have hg2 := gg_el hg u
    rw [lvL_app] at hg2
    refine ml_agree l _ (el g2 u) (o ++ [u]) hg2 (fun x y hx hy => ?_) (by rw [← e1]; exact hnd) x y (by rw [← e1]; exact hx) (by rw [← e1]; exact hy)
    simp only [List.mem_append, List.mem_singleton, not_or] at hx hy
    unfold ml el
    dsimp only
    rw [h x y hx.1 hy.1, h u x huo hx.1, h u y huo hy.1]
    by_cases exy : x = y
    · subst exy
      cases hh : g2 x x with
      | true => exact absurd rfl (hg x x hh).2.2.2.2.1
      | false => simp
    · simp [exy, hx.1, hx.2, hy.1, hy.2]
theorem mlL_app (g : Gr) : ∀ (l o : List Nat) (u : Nat), mlL g o (l ++ [u]) = ml (mlL g o l) (fun w => mlL g o l u w && !decide (w = u) && !decide (w ∈ o ++ l))
  | [], o, u => by simp [mlL]
  | x :: l, o, u => by
    show mlL _ (o ++ [x]) (l ++ [u]) = _
    rw [mlL_app _ l (o ++ [x]) u]
    have e : (o ++ [x]) ++ l = o ++ x :: l := by simp
    rw [e]
    rfl
section GM
variable {n p : Nat} {a : Nat → Nat → Nat} {hd : Nat → Bool} {sd : Nat → Nat} {gn : List Nat} {I : jM}
theorem near_eq (hs : ∀ u w, u < n → w < n → a u w < p ∧ a u w = a w u) (hg : gn.Nodup) {u : Nat} (hu : u ∉ gn) (w : Nat) : (mlL (adj n a) [] gn u w && !decide (w ∈ gn)) = elL (adj n a) gn u w := by
  have hG := gg_elL hs gn
  by_cases hw : w ∈ gn
  · have : elL (adj n a) gn u w = false := by
      cases hh : elL (adj n a) gn u w with
      | true =>
        have := (hG u w hh).2.2.2.1
        unfold lvL at this
        simp [hw] at this
      | false => rfl
    rw [this]; simp [hw]
  · have := ml_agree (n := n) gn (adj n a) (adj n a) [] (by rw [lvL_nil]; exact gg_adj hs) (fun _ _ _ _ => rfl) (by simpa using hg) u w (by simpa using hu) (by simpa using hw)
    rw [this]; simp [hw]
theorem tM_goneBits (hn : n ≤ 24) (hg : gn.Nodup) (hb : ∀ u ∈ gn, u < n) (mg : MG n a gn I) {K : Int32 → Prop} (hK : K (mk (fun w => decide (w ∈ gn)))) : MD_goneBits 100 I K := by
  have hlen : gn.length ≤ 24 := by
    rcases Nat.lt_or_ge 24 gn.length with h | h
    · exfalso
      obtain ⟨i, j, hij, hj, e⟩ := fb_twice (m := 24) (n := gn.length) (f := fun i => gn.getD i 0) (fun i hi => by
        have e1 : gn.getD i 0 = gn[i] := by rw [List.getD_eq_getElem?_getD, List.getElem?_eq_getElem hi]; rfl
        rw [e1]; exact Nat.lt_of_lt_of_le (hb _ (List.getElem_mem hi)) hn) h
      have hi : i < gn.length := by omega
      have e1 : gn.getD i 0 = gn[i] := by rw [List.getD_eq_getElem?_getD, List.getElem?_eq_getElem hi]; rfl
      have e2 : gn.getD j 0 = gn[j] := by rw [List.getD_eq_getElem?_getD, List.getElem?_eq_getElem hj]; rfl
      have e3 : gn[i] = gn[j] := by rw [← e1, ← e2]; exact e
      have := (List.getElem?_inj (j := j) hi hg).mp (by rw [List.getElem?_eq_getElem hi, List.getElem?_eq_getElem hj, e3])
      omega
    · exact h
  unfold MD_goneBits MD_goneBits_4
  refine lp_n2 gn.length (fun k x y => y = nI k ∧ x = mk (fun w => decide (w ∈ gn.take k))) ?_ ?_ (Nat.zero_le _) ⟨rfl, by simp [mk_nil]⟩
  · rintro k x y X hk ⟨rfl, rfl⟩ go
    unfold MD_goneBits_4b
    dsimp only
    simp only [jrs]
    rw [mg.1]
    refine ⟨fun q => absurd q (ge_no hk (by omega)), fun _ => ⟨vp_in_nI (by omega) (by omega), fun v ev => go _ _ ⟨nI_1 k, ?_⟩⟩⟩
    have hx : gn.getD k 0 = gn[k] := by rw [List.getD_eq_getElem?_getD, List.getElem?_eq_getElem hk]; rfl
    have hlt := hb _ (List.getElem_mem hk)
    rw [ev, clamp (by omega), mg.2.1 k hk, mk_one (by omega), mk_or]
    apply mk_ext
    intro i _
    rw [List.take_succ, List.getElem?_eq_getElem hk, hx]
    simp only [Option.toList_some, List.mem_append, List.mem_singleton]
    by_cases h1 : i ∈ gn.take k <;> by_cases h2 : i = gn[k] <;> simp [h1, h2]
  · rintro x y X ⟨rfl, rfl⟩
    unfold MD_goneBits_4b
    dsimp only
    rw [mg.1, List.take_length]
    exact ⟨fun _ => hK, fun q => absurd (nI_le (Nat.le_refl _) (by omega)) q⟩
theorem tM_around (hn : n ≤ 24) (hs : ∀ u w, u < n → w < n → a u w < p ∧ a u w = a w u) (hg : gn.Nodup) (hb : ∀ u ∈ gn, u < n) (mg : MG n a gn I) {u : Nat} (hu : u < n) (hun : u ∉ gn) {K : Int32 → Prop} (hK : K (mk (elL (adj n a) gn u))) : MD_goingAround 100 (nI u) I K := by
  unfold MD_goingAround
  refine ⟨vp_in_nI (by omega) (by omega), tM_goneBits hn hg hb mg ?_⟩
  simp only [jrs]
  rw [clamp (by omega), mg.2.2.1 u hu, mk_diff]
  rw [mk_ext (fun w _ => near_eq hs hg hun w)]
  exact hK
theorem tM_lacks (hn1 : 1 ≤ n) (hn : n ≤ 24) (hg : gn.Nodup) (hb : ∀ u ∈ gn, u < n) (h0 : I 100 0 = nI n) (mg : MG n a gn I) {u : Nat} (hu : u < n) {K : Int32 → Prop} (hK : K (if u ∈ gn then -3 else 0)) : MD_goingLacks 100 (nI u) I K := by
  unfold MD_goingLacks
  refine tM_isUnknown_yes hn h0 hu ⟨fun _ => tM_goneBits hn hg hb mg ?_, fun q => absurd q (by decide)⟩
  rw [mk_tst1 _ (by omega)]
  by_cases h : u ∈ gn
  · rw [if_pos h] at hK; simp [h]; exact hK
  · rw [if_neg h] at hK; simp [h]; exact hK
theorem tM_lacks_no (hn1 : 1 ≤ n) (hn : n ≤ 24) (h0 : I 100 0 = nI n) {x : Int32} (hx : x < 0 ∨ ¬ x < nI n) {K : Int32 → Prop} (hK : K (-1)) : MD_goingLacks 100 x I K := by
  unfold MD_goingLacks
  exact tM_isUnknown_no hn1 hn h0 hx ⟨fun q => absurd rfl q, fun _ => hK⟩
/-- fillsOf(rows, neighbours): rows rw in cell c -/
theorem tM_fillsOf {c : Nat} {rw1 : Gr} {nb : Nat → Bool} (hc : jl c = 24) (hr : ∀ w, w < 24 → nb w = true → I c w = mk (rw1 w)) {K : Int32 → Prop} (hK : K (nI (fb_sm (fun w => if nb w then ct (fun y => nb y && !rw1 w y && !decide (y = w)) else 0) 24 / 2))) : MD_fillsOf c (mk nb) I K := by
  have hbd : ∀ k, fb_sm (fun w => if nb w then ct (fun y => nb y && !rw1 w y && !decide (y = w)) else 0) k ≤ k * 24 := fun k => fb_sm_bound (fun w _ => by
    split
    · exact ct_le _
    · exact Nat.zero_le _)
  unfold MD_fillsOf MD_fillsOf_4
  refine lp_n2 24 (fun k x y => y = nI k ∧ x = nI (fb_sm (fun w => if nb w then ct (fun y => nb y && !rw1 w y && !decide (y = w)) else 0) k)) ?_ ?_ (Nat.zero_le _) ⟨rfl, rfl⟩
  · rintro k x y X hk ⟨rfl, rfl⟩ go
    unfold MD_fillsOf_4b
    dsimp only
    refine ⟨fun q => absurd q (nI_ge (a := k) (b := 24) hk (by omega)), fun _ => ?_⟩
    rw [mk_tst1 _ hk]
    refine ⟨fun q v ev => go _ _ ⟨nI_1 k, ?_⟩, fun q => ⟨by rw [hc]; exact vp_in_nI hk (by omega), ?_⟩⟩
    · rw [ev, Int32.add_zero, fb_sm_succ, if_neg q]; rfl
    · rw [clamp (by omega), hr k hk q, mk_diff, mk_one hk, mk_diff]
      refine t_ones _ _ _ (fun v ev => go _ _ ⟨nI_1 k, ?_⟩)
      rw [ev, nI_add, fb_sm_succ, if_pos q]
  · rintro x y X ⟨rfl, rfl⟩
    unfold MD_fillsOf_4b
    dsimp only
    have h24 := hbd 24
    refine ⟨fun _ => ?_, fun q => absurd (nI_le (a := 24) (b := 24) (Nat.le_refl _) (by omega)) q⟩
    rw [show (2 : Int32) = nI 2 from rfl, pk_div (by omega) (by decide) (by decide)]
    exact hK
theorem tM_joinAll {c : Nat} {rw1 : Gr} {nb : Nat → Bool} (hc : jl c = 24) (hr : ∀ w, w < n → I c w = mk (rw1 w)) (hn : n ≤ 24) (hb : ∀ w, nb w = true → w < n) {K : jM → Prop} (hK : ∀ J : jM, (∀ x, x ≠ c → J x = I x) → (∀ w, w < n → J c w = mk (ml rw1 nb w)) → K J) : MD_joinAll c (mk nb) I K := by
  unfold MD_joinAll MD_joinAll_2
  refine lp_n2 24 (fun k v J => v = nI k ∧ (∀ x, x ≠ c → J x = I x) ∧ (∀ w, w < n → k ≤ w → J c w = mk (rw1 w)) ∧ ∀ w, w < n → w < k → J c w = mk (ml rw1 nb w)) ?_ ?_ (Nat.zero_le _) ⟨rfl, fun _ _ => rfl, fun w hw _ => hr w hw, fun w _ h => absurd h (Nat.not_lt_zero w)⟩
  · rintro k v J X hk ⟨rfl, j1, j2, j3⟩ go
    unfold MD_joinAll_2b
    dsimp only
    refine ⟨fun q => absurd q (nI_ge (a := k) (b := 24) hk (by omega)), fun _ => ?_⟩
    rw [mk_tst1 _ hk]
    refine ⟨fun q => go _ _ ⟨nI_1 k, j1, fun w hw hkw => j2 w hw (by omega), fun w hw hwk => ?_⟩, fun q => ⟨by rw [hc]; exact vp_in_nI hk (by omega), by rw [hc]; exact vp_in_nI hk (by omega), fun J1 f1 => go _ _ ⟨nI_1 k, fun x hx => ?_, fun w hw hkw => ?_, fun w hw hwk => ?_⟩⟩⟩
    · by_cases e : w = k
      · subst e
        rw [j2 w hw (Nat.le_refl _)]
        apply mk_ext
        intro i _
        unfold ml
        simp [q]
      · exact j3 w hw (by omega)
    · rw [f1, jwr_ne hx]; exact j1 x hx
    · rw [f1, clamp (by omega), jwr_at, if_neg (by omega)]; exact j2 w hw (by omega)
    · rw [f1, clamp (by omega), jwr_at]
      by_cases e : w = k
      · subst e
        rw [if_pos ⟨rfl, rfl⟩, j2 w hw (Nat.le_refl _), mk_one hk, mk_diff, mk_or]
        apply mk_ext
        intro i _
        unfold ml
        rw [q]
        by_cases e2 : i = w
        · subst e2; simp
        · simp [e2, Ne.symm e2]
      · rw [if_neg (by omega)]; exact j3 w hw (by omega)
  · rintro v J X ⟨rfl, j1, j2, j3⟩
    unfold MD_joinAll_2b
    dsimp only
    exact ⟨fun _ => hK J j1 (fun w hw => j3 w hw (by omega)), fun q => absurd (nI_le (a := 24) (b := 24) (Nat.le_refl _) (by omega)) q⟩
theorem tM_beginNet (hn : n ≤ 24) (mt : MT n p a hd sd I) {K : jM → Prop} (hK : ∀ J : jM, (∀ x, x ≠ 106 → J x = I x) → (∀ u, u < n → J 106 u = mk (adj n a u)) → K J) (hlt : ∀ u w, u < n → w < n → a u w < 2 ^ 31) : MD_beginNet 100 I K := by
  unfold MD_beginNet MD_beginNet_2
  refine lp_n2 n (fun k v J => v = nI k ∧ (∀ x, x ≠ 106 → J x = I x) ∧ ∀ u, u < k → J 106 u = mk (adj n a u)) ?_ ?_ (Nat.zero_le _) ⟨rfl, fun _ _ => rfl, fun u h => absurd h (Nat.not_lt_zero u)⟩
  · rintro k v J X hk ⟨rfl, j1, j2⟩ go
    unfold MD_beginNet_2b
    dsimp only
    simp only [jrs]
    rw [j1 100 (by omega), mt.1]
    refine ⟨fun q => absurd q (ge_no hk (by omega)), fun _ => ⟨vp_in_nI (by omega) (by omega), fun J1 f1 => ?_⟩⟩
    rw [clamp (by omega)] at f1
    unfold MD_beginNet_19
    refine lp_n2 n (fun m v J2 => v = nI m ∧ (∀ x, x ≠ 106 → J2 x = I x) ∧ (∀ u, u < k → J2 106 u = mk (adj n a u)) ∧ J2 106 k = mk (fun w => decide (w < m) && adj n a k w)) ?_ ?_ (Nat.zero_le _) ⟨rfl, fun x hx => by rw [f1, jwr_ne hx]; exact j1 x hx, fun u hu => by rw [f1, jwr_at, if_neg (by omega)]; exact j2 u hu, by rw [f1, jwr_at, if_pos ⟨rfl, rfl⟩, ← mk_nil]; exact mk_ext (fun i _ => by simp)⟩
    · rintro m v J2 X2 hm ⟨rfl, m1, m2, m3⟩ go2
      unfold MD_beginNet_19b
      dsimp only
      simp only [jrs]
      rw [m1 100 (by omega), mt.1]
      have fin : ∀ (val : Int32) (J3 : jM), J3 = jwr J2 106 (nI k).toNatClampNeg (J2 106 (nI k).toNatClampNeg ||| val) → val = mk (fun w => decide (w = m) && adj n a k m) → X2 (nI m + 1, J3) := by
        intro val J3 f3 hval
        rw [clamp (by omega)] at f3
        refine go2 _ _ ⟨nI_1 m, fun x hx => by rw [f3, jwr_ne hx]; exact m1 x hx, fun u hu => by rw [f3, jwr_at, if_neg (by omega)]; exact m2 u hu, ?_⟩
        rw [f3, jwr_at, if_pos ⟨rfl, rfl⟩, m3, hval, mk_or]
        apply mk_ext
        intro i _
        by_cases e : i = m
        · subst e; simp
        · rw [show (decide (i < m + 1)) = decide (i < m) from decide_eq_decide.mpr (by omega)]
          simp [e]
      have zero : ∀ (b : Bool), b = false → (0 : Int32) = mk (fun w => decide (w = m) && b) := fun b hb => by
        rw [hb, ← mk_nil]; exact mk_ext (fun i _ => by simp)
      refine ⟨fun q => absurd q (ge_no hm (by omega)), fun _ => ⟨vp_in_nI (by omega) (by omega), fun q => ⟨vp_in_nI (by omega) (by omega), fun J3 f3 => fin _ J3 f3 (zero _ ?_)⟩, fun q => ?_⟩⟩
      · have : k = m := (nI_eq (by omega) (by omega)).mp q
        subst this
        exact adj_self n a k
      · have hkm : k ≠ m := fun e => q (by rw [e])
        rw [show (24 : Int32) = nI 24 from rfl, pk_mul, nI_add]
        refine ⟨vp_in_nI (by omega) (by omega), ?_⟩
        rw [clamp (show 24 * k + m < 2 ^ 31 by omega), m1 101 (by omega), mt.2.2.1 k m hk hm]
        refine ⟨fun q2 => ⟨vp_in_nI (by omega) (by omega), fun J3 f3 => fin _ J3 f3 (zero _ ?_)⟩, fun q2 => ⟨vp_in_nI (by omega) (by omega), fun J3 f3 => fin _ J3 f3 ?_⟩⟩
        · have : a k m = 0 := (nI_eq (hlt k m hk hm) (by omega)).mp q2
          unfold adj; simp [this]
        · have : a k m ≠ 0 := fun e => q2 (by rw [e]; rfl)
          rw [mk_one (by omega)]
          apply mk_ext
          intro i _
          unfold adj
          simp [hk, hm, hkm, this]
    · rintro v J2 X2 ⟨rfl, m1, m2, m3⟩
      unfold MD_beginNet_19b
      dsimp only
      rw [m1 100 (by omega), mt.1]
      refine ⟨fun _ => go _ _ ⟨nI_1 k, m1, fun u hu => ?_⟩, fun q => absurd (nI_le (Nat.le_refl _) (by omega)) q⟩
      by_cases e : u = k
      · subst e
        rw [m3]
        apply mk_ext
        intro i _
        unfold adj
        by_cases hi : i < n <;> simp [hi]
      · exact m2 u (by omega)
  · rintro v J X ⟨rfl, j1, j2⟩
    unfold MD_beginNet_2b
    dsimp only
    rw [j1 100 (by omega), mt.1]
    exact ⟨fun _ => hK J j1 j2, fun q => absurd (nI_le (Nat.le_refl _) (by omega)) q⟩
end GM
