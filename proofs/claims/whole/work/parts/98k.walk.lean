/-! ===== LEAST FILL, LEAST WIDTH: the ORDERS ===== -/
def msk (n : Nat) (l : List Nat) : Nat := mkN (fun z => decide (z ∈ l)) n
theorem msk_bit {n : Nat} {l : List Nat} {z : Nat} : (msk n l).testBit z = (decide (z < n) && decide (z ∈ l)) := mkN_bit _ n z
theorem msk_lt (n : Nat) (l : List Nat) : msk n l < 2 ^ n := mkN_lt _ n
theorem msk_app {n : Nat} {l : List Nat} {u : Nat} (hu : u < n) : msk n (l ++ [u]) = msk n l ||| 2 ^ u := by
  apply Nat.eq_of_testBit_eq
  intro i
  rw [fb_bit_set, msk_bit, msk_bit]
  by_cases h1 : i < n
  · by_cases h2 : i ∈ l <;> by_cases h3 : i = u <;> simp [h1, h2, h3, hu]
  · simp [h1, show ¬ i = u by omega]
theorem msk_no {n : Nat} {l : List Nat} {u : Nat} (hu : u ∉ l) : (msk n l).testBit u = false := by rw [msk_bit]; simp [hu]
def gdq (n : Nat) (a : Nat → Nat → Nat) (w : Bool) (m u : Nat) : Bool := if w then decide (max (ct (Hm n a m u)) (lsW n a (m ||| 2 ^ u)) ≤ lsW n a 0) else decide (ct (Hm n a m u) + lsB n a (m ||| 2 ^ u) = lsB n a m)
def lqq (n : Nat) (a : Nat → Nat → Nat) (w : Bool) (l : List Nat) (u : Nat) : Bool := decide (u < n) && !decide (u ∈ l) && gdq n a w (msk n l) u
def pkL (n : Nat) (a : Nat → Nat → Nat) (w : Bool) (l : List Nat) : Nat := if fa_first (lqq n a w l) n < n then fa_first (lqq n a w l) n else fa_first (fun u => !decide (u ∈ l)) n
theorem lqq_iff {n : Nat} {a : Nat → Nat → Nat} {w : Bool} {l : List Nat} {u : Nat} : lqq n a w l u = true ↔ u < n ∧ u ∉ l ∧ gdq n a w (msk n l) u = true := by
  unfold lqq
  simp only [Bool.and_eq_true, decide_eq_true_eq, Bool.not_eq_true', decide_eq_false_iff_not, and_assoc]
theorem pkL_ok (n : Nat) (a : Nat → Nat → Nat) (w : Bool) : gdp n (pkL n a w) := fun l _ _ h3 => by
  unfold pkL
  by_cases h : fa_first (lqq n a w l) n < n
  · rw [if_pos h]
    have := lqq_iff.mp (fa_first_yes (lqq n a w l) n h)
    exact ⟨h, this.2.1⟩
  · rw [if_neg h]
    obtain ⟨u, h1, h2⟩ := some_left h3
    have hlt : fa_first (fun u => !decide (u ∈ l)) n < n := by
      have hle := fa_first_le (fun u => !decide (u ∈ l)) n
      rcases Nat.lt_or_ge (fa_first (fun u => !decide (u ∈ l)) n) n with h4 | h4
      · exact h4
      · have := fa_first_no (fun u => !decide (u ∈ l)) n u (by omega)
        simp [h2] at this
    have := fa_first_yes (fun u => !decide (u ∈ l)) n hlt
    exact ⟨hlt, by simpa using this⟩
section WK
variable {n p : Nat} {a : Nat → Nat → Nat} {hd : Nat → Bool} {od pl sd : Nat → Nat} {I : jM} {w : Bool}
/-- some one is good, while the WIDTH due isn't passed -/
theorem good_ex (hn1 : 1 ≤ n) (hn : n ≤ 12) (hs : ∀ u w, u < n → w < n → a u w < p ∧ a u w = a w u) {l : List Nat} (hlen : l.length < n) (hw : w = true → lsW n a (msk n l) ≤ lsW n a 0) : fa_first (lqq n a w l) n < n := by
  have hm := msk_lt n l
  have hall : msk n l ≠ 2 ^ n - 1 := fun e => by
    obtain ⟨u, h1, h2⟩ := some_left hlen
    have h3 := msk_no (n := n) h2
    rw [e, Nat.testBit_two_pow_sub_one] at h3
    simp [h1] at h3
  have bd := ls_bounds hn1 hn hs hm
  have h2n : 0 < 2 ^ n := Nat.two_pow_pos n
  have bd0 := ls_bounds hn1 hn hs (m := 0) h2n
  have hex : ∃ u, u < n ∧ lqq n a w l u = true := by
    cases w with
    | false =>
      have hst := lsB_step (a := a) hn1 hm hall
      have g := mnn_get (q := fun u => !(msk n l).testBit u) (v := fun u => ct (Hm n a (msk n l) u) + lsB n a (msk n l ||| 2 ^ u)) (k := n)
      rw [← hst] at g
      rcases g with g | ⟨u, h1, h2, h3⟩
      · omega
      · refine ⟨u, h1, lqq_iff.mpr ⟨h1, fun hm => ?_, ?_⟩⟩
        · rw [msk_bit] at h2; simp [h1, hm] at h2
        · unfold gdq
          simp only [Bool.false_eq_true, if_false, decide_eq_true_eq]
          exact h3.symm
    | true =>
      have hst := lsW_step (a := a) hn1 hm hall
      have g := mnn_get (q := fun u => !(msk n l).testBit u) (v := fun u => max (ct (Hm n a (msk n l) u)) (lsW n a (msk n l ||| 2 ^ u))) (k := n)
      rw [← hst] at g
      have hw := hw rfl
      rcases g with g | ⟨u, h1, h2, h3⟩
      · omega
      · refine ⟨u, h1, lqq_iff.mpr ⟨h1, fun hm => ?_, ?_⟩⟩
        · rw [msk_bit] at h2; simp [h1, hm] at h2
        · unfold gdq
          simp only [if_true, decide_eq_true_eq]
          rw [← h3]; exact hw
  obtain ⟨u, h1, h2⟩ := hex
  have hle := fa_first_le (lqq n a w l) n
  rcases Nat.lt_or_ge (fa_first (lqq n a w l) n) n with h4 | h4
  · exact h4
  · have := fa_first_no (lqq n a w l) n u (by omega)
    rw [h2] at this; cases this
theorem sqW (hn1 : 1 ≤ n) (hn : n ≤ 12) (hs : ∀ u w, u < n → w < n → a u w < p ∧ a u w = a w u) : ∀ i, i ≤ n → w = true → lsW n a (msk n (sq (pkL n a w) i)) ≤ lsW n a 0
  | 0, _, _ => by
    have : msk n (sq (pkL n a w) 0) = 0 := by
      apply Nat.eq_of_testBit_eq
      intro i
      rw [msk_bit]; simp [sq]
    rw [this]; exact Nat.le_refl _
  | i + 1, hi, hw => by
    obtain ⟨s1, s2, s3⟩ := sq_ok (pkL_ok n a w) i (by omega)
    have ih := sqW hn1 hn hs i (by omega) hw
    have hg := good_ex hn1 hn hs (w := w) (l := sq (pkL n a w) i) (by omega) (fun _ => ih)
    have hso : so (pkL n a w) i = fa_first (lqq n a w (sq (pkL n a w) i)) n := if_pos hg
    have hy := (lqq_iff.mp (fa_first_yes _ n hg)).2.2
    rw [← hso] at hy hg
    rw [sq_succ, msk_app hg]
    unfold gdq at hy
    rw [if_pos hw, decide_eq_true_eq] at hy
    omega
theorem so_first (hn1 : 1 ≤ n) (hn : n ≤ 12) (hs : ∀ u w, u < n → w < n → a u w < p ∧ a u w = a w u) {i : Nat} (hi : i < n) : so (pkL n a w) i = fa_first (lqq n a w (sq (pkL n a w) i)) n ∧ fa_first (lqq n a w (sq (pkL n a w) i)) n < n := by
  obtain ⟨s1, s2, s3⟩ := sq_ok (pkL_ok n a w) i (by omega)
  have hg := good_ex hn1 hn hs (w := w) (l := sq (pkL n a w) i) (by omega) (sqW hn1 hn hs i (by omega))
  exact ⟨if_pos hg, hg⟩
theorem t_walk (hn1 : 1 ≤ n) (hn : n ≤ 12) (hs : ∀ u w, u < n → w < n → a u w < p ∧ a u w = a w u) (xt : XT n p a hd sd I) (tb : ∀ m, m < 2 ^ n → I 37 m = nI (lsB n a m) ∧ I 38 m = nI (lsW n a m)) {K : jM → Prop} (hK : ∀ J : jM, (∀ x, x ≠ 31 → x ≠ 32 → x ≠ 53 → x ≠ 54 → J x = I x) → XO (so (pkL n a w)) n J → K J) : LE_walk 36 1 30 (if w then 1 else 0) I K := by
  have h4096 := pw12 hn
  have h2n : 0 < 2 ^ n := Nat.two_pow_pos n
  have hg := pkL_ok n a w
  have bd0 := ls_bounds hn1 hn hs (m := 0) h2n
  unfold LE_walk
  simp only [jrs]
  rw [xt.1]
  refine ⟨fun _ => t_take okh53 (by omega) xt (fun J0 j0 j0' nk0 => ?_), fun q => absurd (nI_le (a := n) (b := 12) hn (by omega)) q⟩
  unfold LE_walk_24
  refine lp_n3 n (fun i x v J => v = nI i ∧ x = nI (msk n (sq (pkL n a w) i)) ∧ (∀ x, x ≠ 31 → x ≠ 32 → x ≠ 53 → x ≠ 54 → J x = I x) ∧ NK 53 54 n (lvL (sq (pkL n a w) i)) (elL (adj n a) (sq (pkL n a w) i)) J ∧ XO (so (pkL n a w)) i J) ?_ ?_ (Nat.zero_le n) ⟨rfl, by
    have : msk n (sq (pkL n a w) 0) = 0 := by
      apply Nat.eq_of_testBit_eq
      intro i
      rw [msk_bit]; simp [sq]
    rw [this]; rfl, fun x _ _ h3 h4 => j0 x h3 h4, by show NK 53 54 n (lvL []) (adj n a) J0; rw [lvL_nil]; exact nk0, fun j h => absurd h (Nat.not_lt_zero j)⟩
  · rintro i x v J X hi ⟨rfl, rfl, j1, nk, xo⟩ go
    obtain ⟨s1, s2, s3⟩ := sq_ok hg i (by omega)
    obtain ⟨o1, o2⟩ := so_ok hg hi
    obtain ⟨hso, hsl⟩ := so_first (w := w) hn1 hn hs hi
    obtain ⟨l, hl⟩ : ∃ l, l = sq (pkL n a w) i := ⟨_, rfl⟩
    have hsq : sq (pkL n a w) (i + 1) = l ++ [so (pkL n a w) i] := by rw [hl]; rfl
    rw [← hl] at nk s1 s2 s3 o2 hso hsl ⊢
    have hm := msk_lt n l
    have hm24 : msk n l < 2 ^ 24 := by omega
    have hH : elL (adj n a) l = Hm n a (msk n l) := Hm_set hs s1 (fun z => by
      rw [msk_bit]
      constructor
      · intro hz; exact ⟨s2 z hz, by simp [s2 z hz, hz]⟩
      · rintro ⟨h1, h2⟩; simpa [h1] using h2)
    have bdm := ls_bounds hn1 hn hs hm
    have t37 : ∀ m, m < 2 ^ n → J 37 m = nI (lsB n a m) := fun m h => by rw [j1 37 (by omega) (by omega) (by omega) (by omega)]; exact (tb m h).1
    have t38 : ∀ m, m < 2 ^ n → J 38 m = nI (lsW n a m) := fun m h => by rw [j1 38 (by omega) (by omega) (by omega) (by omega)]; exact (tb m h).2
    have good : ∀ (u : Nat) (K2 : Int32 → Prop), u < n → u ∉ l → (gdq n a w (msk n l) u = true → K2 1) → (gdq n a w (msk n l) u = false → K2 0) → LE_isGood 36 (nI (msk n l)) (nI u) (if w then 1 else 0) J K2 := by
      intro u K2 hu hul k1 k0
      have hlu : lvL l u = true := by unfold lvL; simpa using hul
      have hnx := or_lt hm hu
      have bdn := ls_bounds hn1 hn hs hnx
      have hc := ct_le (Hm n a (msk n l) u)
      unfold LE_isGood
      simp only [jrs]
      rw [clamp (show u < 2 ^ 31 by omega), nk.2.2 u hu hlu, hH]
      refine ⟨vp_in_nI (by omega) (by omega), t_bitCount _ _ _ (fun v5 e5 => ?_)⟩
      rw [set_or hm24 (by omega)] at e5
      subst e5
      rw [clamp (show msk n l ||| 2 ^ u < 2 ^ 31 by omega), clamp (show msk n l < 2 ^ 31 by omega), t37 _ hnx, t37 _ hm, t38 _ hnx, nI_add]
      have e0 : J 38 (0 : Int32).toNatClampNeg = nI (lsW n a 0) := t38 0 h2n
      rw [e0]
      cases w with
      | false =>
        unfold gdq at k1 k0
        simp only [Bool.false_eq_true, if_false, decide_eq_true_eq, decide_eq_false_iff_not] at k1 k0
        refine ⟨fun _ => ⟨vp_in_nI (by omega) (by omega), vp_in_nI (by omega) (by omega), fun q => k0 (fun e => q (by rw [e])), fun q => k1 ((nI_eq (by omega) (by omega)).mp q)⟩, fun q => absurd rfl q⟩
      | true =>
        unfold gdq at k1 k0
        simp only [if_true, decide_eq_true_eq, decide_eq_false_iff_not] at k1 k0
        refine ⟨fun q => absurd q (by decide), fun _ => ⟨vp_in_nI (by omega) (by omega), t_max (by omega) (by omega) ⟨vp_in_nI (n := 0) (N := 4096) (by omega) (by omega), fun q => k0 (fun e => ?_), fun q => k1 ?_⟩⟩⟩
        · have := (nI_ltI (by omega) (by omega)).mp q
          omega
        · rcases Nat.lt_or_ge (lsW n a 0) (max (ct (Hm n a (msk n l) u)) (lsW n a (msk n l ||| 2 ^ u))) with h | h
          · exact absurd (nI_lt h (by omega)) q
          · exact h
    have first : ∀ K2 : Int32 → Prop, K2 (nI (so (pkL n a w) i)) → LE_firstGood 36 (nI (msk n l)) (if w then 1 else 0) J K2 := by
      intro K2 hK2
      unfold LE_firstGood LE_firstGood_2
      refine lp_n (so (pkL n a w) i) (fun k (s : Int32) => s = nI k) ?_ ?_ (Nat.zero_le _) rfl
      · rintro k s X2 hk rfl go2
        have hno := fa_first_no (lqq n a w l) n k (by rw [← hso]; exact hk)
        unfold LE_firstGood_2b
        simp only [jrs]
        rw [nk.1]
        refine ⟨fun q => absurd q (ge_no (show k < n by omega) (by omega)), fun _ => t_has nk (by omega) (by omega) ?_⟩
        by_cases hkl : k ∈ l
        · have : lvL l k = false := by unfold lvL; simp [hkl]
          rw [this]
          exact ⟨fun _ => go2 _ (nI_1 k), fun q => absurd rfl q⟩
        · have : lvL l k = true := by unfold lvL; simp [hkl]
          rw [this]
          refine ⟨fun q => absurd q (by decide), fun _ => good k _ (by omega) hkl (fun hh => ?_) (fun _ => ⟨fun _ => go2 _ (nI_1 k), fun q => absurd rfl q⟩)⟩
          have := lqq_iff.mpr ⟨show k < n by omega, hkl, hh⟩
          rw [hno] at this; cases this
      · rintro s X2 rfl
        have hy := (lqq_iff.mp (fa_first_yes (lqq n a w l) n hsl)).2.2
        rw [← hso] at hy
        unfold LE_firstGood_2b
        simp only [jrs]
        rw [nk.1]
        refine ⟨fun q => absurd q (ge_no o1 (by omega)), fun _ => t_has nk o1 (by omega) ?_⟩
        have : lvL l (so (pkL n a w) i) = true := by unfold lvL; simp [o2]
        rw [this]
        refine ⟨fun q => absurd q (by decide), fun _ => good _ _ o1 o2 (fun _ => ⟨fun q => absurd q (by decide), fun _ => hK2⟩) (fun hh => ?_)⟩
        rw [hy] at hh; cases hh
    unfold LE_walk_24b
    dsimp only
    rw [j1 1 (by omega) (by omega) (by omega) (by omega), xt.1]
    refine ⟨fun q => absurd q (ge_no hi (by omega)), fun _ => first _ (t_rset (by omega) (by omega) (fun J1 k1 k2 k3 => ?_))⟩
    simp only [jrs]
    have nk1 : NK 53 54 n (lvL l) (elL (adj n a) l) J1 := ⟨by rw [k1 53 (by omega) (by omega)]; exact nk.1, by rw [k1 53 (by omega) (by omega)]; exact nk.2.1, fun u hu h => by rw [k1 54 (by omega) (by omega)]; exact nk.2.2 u hu h⟩
    refine t_remove okh53 nk1 (gg_elL hs l) o1 (by unfold lvL; simpa using o2) (by omega) (fun J2 m1 m2 nk2 v4 e4 => go _ _ _ ⟨nI_1 i, ?_, fun x h1 h2 h3 h4 => by rw [m1 x h3 h4, k1 x h1 h2]; exact j1 x h1 h2 h3 h4, ?_, fun j hj => ?_⟩)
    · rw [e4, set_or hm24 (by omega), hsq, msk_app o1]
    · rw [hsq, ← lvL_app, elL_app]; exact nk2
    · rw [m1 31 (by omega) (by omega), m1 32 (by omega) (by omega), k2, k3]
      by_cases e : j = i
      · subst e; rw [if_pos rfl, if_pos rfl]; exact ⟨rfl, rfl⟩
      · rw [if_neg e, if_neg (fun e2 => (so_ok hg hi).2 (by rw [← e2]; exact sq_mem _ j i (by omega)))]
        exact xo j (by omega)
  · rintro x v J X ⟨rfl, rfl, j1, nk, xo⟩
    unfold LE_walk_24b
    dsimp only
    rw [j1 1 (by omega) (by omega) (by omega) (by omega), xt.1]
    exact ⟨fun _ => hK J j1 xo, fun q => absurd (nI_le (Nat.le_refl n) (by omega)) q⟩
/-- what is good, as the reference has it -/
theorem gdq_M (hn1 : 1 ≤ n) (hn : n ≤ 12) (hs : ∀ u w, u < n → w < n → a u w < p ∧ a u w = a w u) {m u : Nat} (hm : m < 2 ^ n) (hu : u < n) (hb : m.testBit u = false) : (w = false → (gdq n a w m u = true ↔ jo true (cs true n a m u) (lsb true n a (m ||| 2 ^ u)) = lsb true n a m)) ∧ (w = true → (gdq n a w m u = true ↔ jo false (cs false n a m u) (lsb false n a (m ||| 2 ^ u)) ≤ lsb false n a 0)) := by
  constructor
  · rintro rfl
    have h1 := (ls_bounds hn1 hn hs hm).2.1
    have h2 := (ls_bounds hn1 hn hs (or_lt hm hu)).2.1
    have h3 : ct (Hm n a m u) + Em n a (m ||| 2 ^ u) = ms (Hm n a m) u + Em n a m := by
      unfold Em
      rw [Hm_next hs hu hb]
      exact dg_step (Hm_gg hs m) (by omega)
    unfold gdq
    simp only [Bool.false_eq_true, if_false, decide_eq_true_eq]
    show _ ↔ ms (Hm n a m) u + lsL n a (m ||| 2 ^ u) = lsL n a m
    omega
  · rintro rfl
    unfold gdq
    simp only [if_true, decide_eq_true_eq]
    exact Iff.rfl
theorem tM_byLeast (hn1 : 1 ≤ n) (hn : n ≤ 12) (hs : ∀ u w, u < n → w < n → a u w < p ∧ a u w = a w u) (hlt : ∀ u w, u < n → w < n → a u w < 2 ^ 31) (mt : MT n p a hd sd I) (ml : ML n a I) {K : jM → Prop} (hK : ∀ J : jM, (∀ x, x ≠ 100 → x ≠ 103 → x ≠ 106 → x ≠ 110 → J x = I x) → (∀ k, k ≠ 13 → J 100 k = I 100 k) → ML n a J → (∀ i, i < n → J 103 i = nI (so (pkL n a w) i)) → K J) : MD_byLeast 100 (if w then 0 else 1) I K := by
  have h4096 := pw12 hn
  have h2n : 0 < 2 ^ n := Nat.two_pow_pos n
  have hg := pkL_ok n a w
  have ew : (if w then (0 : Int32) else 1) = if (!w) then 1 else 0 := by cases w <;> rfl
  unfold MD_byLeast
  rw [ew]
  refine tM_findLeast hn1 hn hs hlt mt ml (fun J0 j0 j00 j6 j13 tb => ⟨vp_in_nI (n := 0) (N := 4096) (by omega) (by omega), fun v3 e3 => ?_⟩)
  simp only [jrs] at e3
  have e4 : v3 = nI (lsb (!w) n a 0) := by rw [e3]; exact tb 0 h2n
  subst e4
  unfold MD_byLeast_17
  refine lp_n3 n (fun i x v J => v = nI i ∧ x = nI (msk n (sq (pkL n a w) i)) ∧ (∀ x, x ≠ 103 → J x = J0 x) ∧ ∀ j, j < i → J 103 j = nI (so (pkL n a w) j)) ?_ ?_ (Nat.zero_le n) ⟨rfl, by
    have : msk n (sq (pkL n a w) 0) = 0 := by
      apply Nat.eq_of_testBit_eq
      intro i
      rw [msk_bit]; simp [sq]
    rw [this]; rfl, fun _ _ => rfl, fun j h => absurd h (Nat.not_lt_zero j)⟩
  · rintro i x v J X hi ⟨rfl, rfl, j1, j3⟩ go
    obtain ⟨s1, s2, s3⟩ := sq_ok hg i (by omega)
    obtain ⟨o1, o2⟩ := so_ok hg hi
    obtain ⟨hso, hsl⟩ := so_first (w := w) hn1 hn hs hi
    obtain ⟨l, hl⟩ : ∃ l, l = sq (pkL n a w) i := ⟨_, rfl⟩
    have hsq : sq (pkL n a w) (i + 1) = l ++ [so (pkL n a w) i] := by rw [hl]; rfl
    rw [← hl] at s1 s2 s3 o2 hso hsl ⊢
    have hm := msk_lt n l
    have hm24 : msk n l < 2 ^ 24 := by omega
    have m0 : J 100 0 = nI n := by rw [j1 100 (by omega), j00 0 (by omega)]; exact mt.1
    have m6 : ∀ w, w < n → J 106 w = mk (adj n a w) := fun w hw => by rw [j1 106 (by omega)]; exact j6 w hw
    have m110 : ∀ m, m < 2 ^ n → J 110 m = nI (lsb (!w) n a m) := fun m h => by rw [j1 110 (by omega)]; exact tb m h
    unfold MD_byLeast_17b
    dsimp only
    rw [m0]
    refine ⟨fun q => absurd q (ge_no hi (by omega)), fun _ => ?_⟩
    unfold MD_byLeast_32
    refine lp_n2 (so (pkL n a w) i + 1) (fun k x v => (k ≤ so (pkL n a w) i ∧ x = nI k ∧ v = 0) ∨ (k = so (pkL n a w) i + 1 ∧ x = nI (so (pkL n a w) i) ∧ v = 1)) ?_ ?_ (Nat.zero_le _) (Or.inl ⟨Nat.zero_le _, rfl, rfl⟩)
    · rintro k x v X2 hk hv go2
      rcases hv with ⟨h1, rfl, rfl⟩ | ⟨h1, -, -⟩
      · unfold MD_byLeast_32b MD_byLeast_108
        dsimp only
        simp only [jrs]
        rw [set_tst hm24 (by omega), set_or hm24 (by omega)]
        -- is k good?
        have nogood : (k ∈ l ∨ gdq n a w (msk n l) k = false) → k < so (pkL n a w) i := fun hh => by
          rcases Nat.lt_or_ge k (so (pkL n a w) i) with h | h
          · exact h
          · exfalso
            have e : k = so (pkL n a w) i := by omega
            have hy := lqq_iff.mp (fa_first_yes (lqq n a w l) n hsl)
            rw [← hso, ← e] at hy
            rcases hh with hh | hh
            · exact hy.2.1 hh
            · rw [hy.2.2] at hh; cases hh
        have isgood : k ∉ l → gdq n a w (msk n l) k = true → k = so (pkL n a w) i := fun h2 h3 => by
          rcases Nat.lt_or_ge k (so (pkL n a w) i) with h | h
          · have hno := fa_first_no (lqq n a w l) n k (by rw [← hso]; exact h)
            have := lqq_iff.mpr ⟨show k < n by omega, h2, h3⟩
            rw [hno] at this; cases this
          · omega
        refine ⟨fun q => absurd trivial (by simpa using q), fun _ => ⟨fun q => ⟨fun _ v5 e5 => go2 _ _ (Or.inl ⟨?_, by rw [e5]; exact nI_1 k, rfl⟩), fun q2 => absurd trivial (by simpa using q2)⟩, fun q => ?_⟩⟩
        · have hkl : k ∈ l := by
            rw [msk_bit] at q
            simpa [show k < n by omega] using q
          exact nogood (Or.inl hkl)
        · have hkn : k < n := by omega
          have hkl : k ∉ l := fun hh => by rw [msk_bit] at q; simp [hkn, hh] at q
          have hnx := or_lt hm hkn
          have b1 := cs_le (n := n) (a := a) (!w) (msk n l) k
          have b2 := lsb_bd (!w) hn1 hn hs hnx
          have b3 := jo_bd (!w) b1 b2
          have b4 := lsb_bd (!w) hn1 hn hs hm
          have b5 := lsb_bd (!w) hn1 hn hs h2n
          have gm := gdq_M (w := w) hn1 hn hs hm hkn q
          refine tM_costOf (by omega) hs hm hkn q m0 m6 ⟨vp_in_nI (by omega) (by omega), ?_⟩
          rw [clamp (show msk n l ||| 2 ^ k < 2 ^ 31 by omega), m110 _ hnx, clamp (show msk n l < 2 ^ 31 by omega), m110 _ hm]
          refine tM_joined (by omega) (by omega) ?_
          have no : gdq n a w (msk n l) k = false → (∀ v5 : Int32, v5 = nI k + 1 → X2 (v5, 0)) := fun hh v5 e5 => go2 _ _ (Or.inl ⟨nogood (Or.inr hh), by rw [e5]; exact nI_1 k, rfl⟩)
          have yes : gdq n a w (msk n l) k = true → (∀ v5 : Int32, v5 = nI k + 0 → X2 (v5, 1)) := fun hh v5 e5 => go2 _ _ (Or.inr ⟨by rw [isgood hkl hh], by rw [e5, Int32.add_zero, isgood hkl hh], rfl⟩)
          cases w with
          | false =>
            have gm := gm.1 rfl
            refine ⟨fun q2 => absurd q2 (by decide), fun _ => ⟨vp_in_nI (by omega) (by omega), fun q2 => ⟨fun _ v5 e5 => no ?_ v5 e5, fun q3 => absurd trivial (by simpa using q3)⟩, fun q2 => ⟨fun q3 => absurd q3 (by decide), fun _ v5 e5 => yes ?_ v5 e5⟩⟩⟩
            · cases hh : gdq n a false (msk n l) k with
              | false => rfl
              | true => exact absurd (by rw [show (!false) = true from rfl, gm.mp hh]) q2
            · have h7 : jo (!false) (cs (!false) n a (msk n l) k) (lsb (!false) n a (msk n l ||| 2 ^ k)) = lsb (!false) n a (msk n l) := (nI_eq (by omega) (by omega)).mp q2
              exact gm.mpr h7
          | true =>
            have gm := gm.2 rfl
            refine ⟨fun _ => ⟨fun q2 => ⟨fun _ v5 e5 => no ?_ v5 e5, fun q3 => absurd trivial (by simpa using q3)⟩, fun q2 => ⟨fun q3 => absurd q3 (by decide), fun _ v5 e5 => yes ?_ v5 e5⟩⟩, fun q2 => absurd rfl q2⟩
            · cases hh : gdq n a true (msk n l) k with
              | false => rfl
              | true =>
                have h5 := gm.mp hh
                have h6 := (nI_ltI (by omega) (by omega)).mp q2
                have h7 : jo (!true) (cs (!true) n a (msk n l) k) (lsb (!true) n a (msk n l ||| 2 ^ k)) ≤ lsb (!true) n a 0 := h5
                omega
            · apply gm.mpr
              rcases Nat.lt_or_ge (lsb (!true) n a 0) (jo (!true) (cs (!true) n a (msk n l) k) (lsb (!true) n a (msk n l ||| 2 ^ k))) with h | h
              · exact absurd (nI_lt h (by omega)) q2
              · exact h
      · omega
    · rintro x v X2 hv
      rcases hv with ⟨h1, -, -⟩ | ⟨-, rfl, rfl⟩
      · omega
      · unfold MD_byLeast_32b
        dsimp only
        simp only [jrs]
        rw [clamp (show i < 2 ^ 31 by omega)]
        refine ⟨fun _ => ⟨vp_in_nI (by omega) (by omega), fun J1 f1 v2 e2 => go _ _ _ ⟨nI_1 i, by rw [e2, set_or hm24 (by omega), hsq, msk_app o1], fun x hx => by rw [f1, jwr_ne hx]; exact j1 x hx, fun j hj => ?_⟩⟩, fun q => absurd q (by decide)⟩
        rw [f1, jwr_at]
        by_cases e : j = i
        · rw [if_pos ⟨rfl, e⟩, e]
        · rw [if_neg (fun e2 => e e2.2)]; exact j3 j (by omega)
  · rintro x v J X ⟨rfl, rfl, j1, j3⟩
    unfold MD_byLeast_17b
    dsimp only
    rw [j1 100 (by omega), j00 0 (by omega), mt.1]
    refine ⟨fun _ => hK J (fun x h1 h2 h3 h4 => (j1 x h2).trans (j0 x h1 h3 h4)) (fun k hk => by rw [j1 100 (by omega)]; exact j00 k hk) ?_ j3, fun q => absurd (nI_le (Nat.le_refl n) (by omega)) q⟩
    exact (ML.of hn j13 tb).fr (by rw [j1 100 (by omega)]) (j1 110 (by omega))
end WK
