/-! ===== LEAST, the class's side ===== -/
theorem nI_mk {m : Nat} (hm : m < 2 ^ 24) : nI m = mk (fun i => m.testBit i) := b_ext (fun i _ => by
  rw [bt_nI (Nat.lt_of_lt_of_le hm (by decide)), mk_bt]
  by_cases h : i < 24
  · simp [h]
  · rw [Nat.testBit_lt_two_pow (Nat.lt_of_lt_of_le hm (Nat.pow_le_pow_right (by decide) (by omega)))]; simp [h])
theorem pw12 {n : Nat} (hn : n ≤ 12) : 2 ^ n ≤ 4096 := Nat.pow_le_pow_right (n := 2) (by decide) hn
theorem set_tst {m u : Nat} (hm : m < 2 ^ 24) (hu : u < 24) : ((nI m >>> (nI u &&& 31)) &&& 1 = 0) ↔ m.testBit u = false := by
  rw [nI_mk hm, mk_tst0 _ hu]
theorem set_tst1 {m u : Nat} (hm : m < 2 ^ 24) (hu : u < 24) : ((nI m >>> (nI u &&& 31)) &&& 1 = 1) ↔ m.testBit u = true := by
  rw [nI_mk hm, mk_tst1 _ hu]
theorem set_or {m u : Nat} (hm : m < 2 ^ 24) (hu : u < 24) : nI m ||| ((1 : Int32) <<< (nI u &&& 31)) = nI (m ||| 2 ^ u) := by
  rw [nI_mk hm, mk_one hu, mk_or, nI_mk (or_lt hm hu)]
  apply mk_ext
  intro i _
  rw [fb_bit_set]
theorem jl40 : ∀ k, k < 13 → jl (40 + k) = 12 := by decide +kernel
/-- those of m from k on -/
def bD (n m k : Nat) : List Nat := (bitsD n m).filter (fun z => decide (k ≤ z))
theorem bD_mem {n m k z : Nat} : z ∈ bD n m k ↔ z < n ∧ m.testBit z = true ∧ k ≤ z := by
  unfold bD
  rw [List.mem_filter, bitsD_mem, decide_eq_true_eq, and_assoc]
theorem bD_nodup (n m k : Nat) : (bD n m k).Nodup := List.filter_sublist.nodup (bitsD_nodup n m)
/-- row k of the nets is right for the set m -/
def NW (n : Nat) (a : Nat → Nat → Nat) (m k : Nat) (I : jM) : Prop := ∀ u, u < n → ¬ (k ≤ u ∧ m.testBit u = true) → I (40 + k) u = mk (elL (adj n a) (bD n m k) u)
section LX
variable {n p : Nat} {a : Nat → Nat → Nat} {hd : Nat → Bool} {od pl sd : Nat → Nat} {I : jM}
theorem NW.to {m m' k : Nat} (hs : ∀ u w, u < n → w < n → a u w < p ∧ a u w = a w u) (h : NW n a m k I) (e : ∀ i, k ≤ i → i < n → m.testBit i = m'.testBit i) : NW n a m' k I := fun u hu hq => by
  rw [h u hu (fun h2 => hq ⟨h2.1, by rw [← e u h2.1 hu]; exact h2.2⟩), elL_set hs (bD_nodup n m k) (bD_nodup n m' k) (fun z => by
    rw [bD_mem, bD_mem]
    constructor
    · rintro ⟨h1, h2, h3⟩; exact ⟨h1, by rw [← e z h3 h1]; exact h2, h3⟩
    · rintro ⟨h1, h2, h3⟩; exact ⟨h1, by rw [e z h3 h1]; exact h2, h3⟩)]
theorem NW.fr {m k : Nat} {J : jM} (h : NW n a m k I) (e : J (40 + k) = I (40 + k)) : NW n a m k J := fun u hu hq => by rw [e]; exact h u hu hq
theorem t_makeNet {m k : Nat} (hn : n ≤ 12) (hs : ∀ u w, u < n → w < n → a u w < p ∧ a u w = a w u) (hm : m < 2 ^ n) (hk : k < n) (nw : NW n a m (k + 1) I) {K : jM → Prop} (hK : ∀ J : jM, (∀ x, x ≠ 40 + k → J x = I x) → NW n a m k J → K J) : LE_makeNet 36 (nI k) (nI m) (nI n) I K := by
  have h4096 := pw12 hn
  have l1 := jl40 k (by omega)
  have l2 := jl40 (k + 1) (by omega)
  unfold LE_makeNet
  simp only [jrs, jws39]
  rw [nI_1, clamp (show k < 2 ^ 31 by omega), clamp (show k + 1 < 2 ^ 31 by omega), set_tst1 (by omega) (by omega), clamp (show n < 2 ^ 31 by omega)]
  refine ⟨fun q => ⟨vp_in_nI (by omega) (by omega), vp_in_nI (by omega) (by omega), by decide, by decide, nI_pos (by omega), by show 0 + n ≤ 12; omega, by show 0 + n ≤ 12; omega, fun J f => ?_⟩, fun q => ⟨vp_in_nI (by omega) (by omega), vp_in_nI (by omega) (by omega), ?_⟩⟩
  · have q : m.testBit k = false := by simpa using q
    refine hK J (fun x hx => by rw [f, jrow_ne hx]) (fun u hu hq => ?_)
    have hne : ¬ (k + 1 ≤ u ∧ m.testBit u = true) := fun h => hq ⟨by omega, h.2⟩
    have e0 : J (40 + k) u = I (40 + (k + 1)) u := by
      rw [f, jrow_same]
      show va_cpy (I (40 + (k + 1))) (I (40 + k)) 0 0 n u = _
      rw [pk_cpy_in (Nat.zero_le u) (by omega)]
      simp
    rw [e0, nw u hu hne]
    rw [elL_set hs (bD_nodup n m (k + 1)) (bD_nodup n m k) (fun z => by
      rw [bD_mem, bD_mem]
      constructor
      · rintro ⟨h1, h2, h3⟩; exact ⟨h1, h2, by omega⟩
      · rintro ⟨h1, h2, h3⟩
        refine ⟨h1, h2, ?_⟩
        rcases Nat.lt_or_ge k z with h | h
        · exact h
        · have : z = k := by omega
          rw [this, q] at h2; cases h2)]
  · have hG := gg_elL hs (bD n m (k + 1))
    refine t_copyW (gu := elL (adj n a) (bD n m (k + 1)) k) hk (by omega) (by rw [l2]; exact hn) (by rw [l1]; exact hn) (by omega) (by omega) (nw k hk (fun h => by omega)) (fun J j1 j2 => hK J j1 (fun u hu hq => ?_))
    have huk : u ≠ k := fun e => hq ⟨by omega, by rw [e]; exact q⟩
    rw [j2 u hu, nw u hu (fun h => hq ⟨by omega, h.2⟩), el_row hG huk, ← elL_app]
    rw [elL_set hs (l1 := bD n m (k + 1) ++ [k]) (l2 := bD n m k) ?_ (bD_nodup n m k) (fun z => ?_)]
    · rw [List.nodup_append]
      refine ⟨bD_nodup n m (k + 1), by simp, fun x hx y hy e => ?_⟩
      rw [List.mem_singleton.mp hy] at e
      rw [e] at hx
      have := (bD_mem.mp hx).2.2
      omega
    · rw [List.mem_append, List.mem_singleton, bD_mem, bD_mem]
      constructor
      · rintro (⟨h1, h2, h3⟩ | h1)
        · exact ⟨h1, h2, by omega⟩
        · exact ⟨by omega, by rw [h1]; exact q, by omega⟩
      · rintro ⟨h1, h2, h3⟩
        by_cases e : z = k
        · exact Or.inr e
        · exact Or.inl ⟨h1, h2, by omega⟩
theorem t_min {x y : Nat} (hx : x < 2 ^ 31) (hy : y < 2 ^ 31) {I : jM} {K : Int32 → Prop} (h : K (nI (min x y))) : JM_min (nI x) (nI y) I K := by
  unfold JM_min
  refine ⟨fun q => ?_, fun q => ?_⟩
  · have : y < x := (nI_ltI hy hx).mp q
    rw [show min x y = y by omega] at h; exact h
  · have : ¬ y < x := fun e => q ((nI_ltI hy hx).mpr e)
    rw [show min x y = x by omega] at h; exact h
theorem bD0 {m : Nat} (hs : ∀ u w, u < n → w < n → a u w < p ∧ a u w = a w u) : elL (adj n a) (bD n m 0) = Hm n a m := Hm_set hs (bD_nodup n m 0) (fun z => by rw [bD_mem]; exact ⟨fun h => ⟨h.1, h.2.1⟩, fun h => ⟨h.1, h.2, Nat.zero_le z⟩⟩)
theorem t_weigh {m : Nat} (hn1 : 1 ≤ n) (hn : n ≤ 12) (hs : ∀ u w, u < n → w < n → a u w < p ∧ a u w = a w u) (hm : m < 2 ^ n) (nw : NW n a m 0 I) (hB : ∀ u, u < n → m.testBit u = false → I 37 (m ||| 2 ^ u) = nI (lsB n a (m ||| 2 ^ u)) ∧ I 38 (m ||| 2 ^ u) = nI (lsW n a (m ||| 2 ^ u))) {K : jM → Prop} (hK : ∀ J : jM, (∀ x, x ≠ 37 → x ≠ 38 → J x = I x) → (∀ k, J 37 k = if k = m then nI (lsB n a m) else I 37 k) → (∀ k, J 38 k = if k = m then nI (lsW n a m) else I 38 k) → K J) : LE_weigh 36 (nI m) (nI n) I K := by
  have h4096 := pw12 hn
  have hm24 : m < 2 ^ 24 := by omega
  have sB := fun k => mnn_min (q := fun u => !m.testBit u) (v := fun u => ct (Hm n a m u) + lsB n a (m ||| 2 ^ u)) (k := k)
  have sW := fun k => mnn_min (q := fun u => !m.testBit u) (v := fun u => max (ct (Hm n a m u)) (lsW n a (m ||| 2 ^ u))) (k := k)
  unfold LE_weigh LE_weigh_12
  refine lp_n3 n (fun k x y v => v = nI k ∧ x = nI (mnn (fun u => !m.testBit u) (fun u => ct (Hm n a m u) + lsB n a (m ||| 2 ^ u)) k) ∧ y = nI (mnn (fun u => !m.testBit u) (fun u => max (ct (Hm n a m u)) (lsW n a (m ||| 2 ^ u))) k)) ?_ ?_ (Nat.zero_le n) ⟨rfl, rfl, rfl⟩
  · rintro k x y v X hk ⟨rfl, rfl, rfl⟩ go
    have b1 := (sB k).1
    have b2 := (sW k).1
    unfold LE_weigh_12b
    dsimp only
    simp only [jrs, jws39]
    rw [set_tst hm24 (by omega), set_or hm24 (by omega), clamp (show k < 2 ^ 31 by omega)]
    refine ⟨fun q => absurd q (ge_no hk (by omega)), fun _ => ⟨fun q => go _ _ _ ⟨nI_1 k, ?_, ?_⟩, fun q => ⟨vp_in_nI (n := 0) (N := 13) (by omega) (by omega), vp_in_nI (by omega) (by omega), ?_⟩⟩⟩
    · rw [mnn_succ, if_neg (by simpa using q)]
    · rw [mnn_succ, if_neg (by simpa using q)]
    · have hnx := or_lt hm hk
      have bd := ls_bounds hn1 hn hs (m := m ||| 2 ^ k) hnx
      have hc := ct_le (Hm n a m k)
      show JI_bitCount (I (40 + 0) k) _ _
      rw [nw k hk (fun h => by rw [q] at h; exact absurd h.2 (by decide)), bD0 hs]
      refine t_bitCount _ _ _ (fun v7 e7 => ?_)
      subst e7
      rw [clamp (show m ||| 2 ^ k < 2 ^ 31 by omega), (hB k hk q).1, (hB k hk q).2, nI_add]
      refine ⟨vp_in_nI (by omega) (by omega), t_min (by omega) (by omega) ⟨vp_in_nI (by omega) (by omega), t_max (by omega) (by omega) (t_min (by omega) (by omega) (go _ _ _ ⟨nI_1 k, ?_, ?_⟩))⟩⟩
      · rw [mnn_succ, if_pos (by simp [q])]
      · rw [mnn_succ, if_pos (by simp [q])]
  · rintro x y v X ⟨rfl, rfl, rfl⟩
    unfold LE_weigh_12b
    dsimp only
    have eall : (1 : Int32) <<< (nI n &&& 31) - 1 = nI (2 ^ n - 1) := by
      rw [mk_all n (by omega), nI_mk (by omega)]
      apply mk_ext
      intro i _
      rw [Nat.testBit_two_pow_sub_one]
    rw [eall]
    have fin : ∀ (f : Int32) (x y : Int32), (f = 0 → x = nI (lsB n a m) ∧ y = nI (lsW n a m)) → (¬ f = 0 → lsB n a m = 0 ∧ lsW n a m = 0) → LE_weigh_103 36 (nI m) x y f I K := fun f x y hf0 hf1 => by
      have wr : ∀ (s2 s3 : Int32) (I1 I2 : jM), s2 = nI (lsB n a m) → s3 = nI (lsW n a m) → I1 = jwr I 37 m s2 → I2 = jwr I1 38 m s3 → K I2 := fun s2 s3 I1 I2 h2 h3 g1 g2 => hK I2 (fun x h1 h2 => by rw [g2, jwr_ne h2, g1, jwr_ne h1]) (fun k => by
        rw [g2, jwr_ne (by omega), g1, jwr_at, h2]
        by_cases e : k = m <;> simp [e]) (fun k => by
        rw [g2, jwr_at, g1, jwr_ne (by omega), h3]
        by_cases e : k = m <;> simp [e])
      unfold LE_weigh_103 LE_weigh_120
      simp only [jrs]
      rw [clamp (show m < 2 ^ 31 by omega)]
      refine ⟨fun q => ⟨vp_in_nI (by omega) (by omega), fun I1 g1 => ⟨fun _ => ⟨vp_in_nI (by omega) (by omega), fun I2 g2 => wr _ _ I1 I2 (hf0 q).1 (hf0 q).2 g1 g2⟩, fun q2 => absurd q q2⟩⟩, fun q => ⟨vp_in_nI (by omega) (by omega), fun I1 g1 => ⟨fun q2 => absurd q2 q, fun _ => ⟨vp_in_nI (by omega) (by omega), fun I2 g2 => wr _ _ I1 I2 (by rw [(hf1 q).1]; rfl) (by rw [(hf1 q).2]; rfl) g1 g2⟩⟩⟩⟩
    refine ⟨fun _ => ⟨fun q => fin 0 _ _ (fun _ => ?_) (fun q2 => absurd rfl q2), fun q => fin 1 _ _ (fun q2 => absurd q2 (by decide)) (fun _ => ?_)⟩, fun q => absurd (nI_le (Nat.le_refl n) (by omega)) q⟩
    · have he : m ≠ 2 ^ n - 1 := fun e => q (by rw [e])
      exact ⟨by rw [← lsB_step hn1 hm he], by rw [← lsW_step hn1 hm he]⟩
    · have he : m = 2 ^ n - 1 := (nI_eq (by omega) (by omega)).mp q
      rw [he]
      exact ⟨ls_all hn1, ls_all hn1⟩
theorem chg {m k : Nat} (h : (m ^^^ (m + 1)) / 2 ^ k = 0) (i : Nat) (hi : k ≤ i) : (m + 1).testBit i = m.testBit i := by
  have h1 : m ^^^ (m + 1) < 2 ^ k := by
    rcases Nat.div_eq_zero_iff.mp h with h | h
    · exact absurd h (Nat.ne_of_gt (Nat.two_pow_pos k))
    · exact h
  have h2 : (m ^^^ (m + 1)).testBit i = false := Nat.testBit_lt_two_pow (Nat.lt_of_lt_of_le h1 (Nat.pow_le_pow_right (by decide) hi))
  rw [Nat.testBit_xor] at h2
  revert h2
  cases m.testBit i <;> cases (m + 1).testBit i <;> decide
theorem t_reckonL (hn1 : 1 ≤ n) (hn : n ≤ 12) (hs : ∀ u w, u < n → w < n → a u w < p ∧ a u w = a w u) (xt : XT n p a hd sd I) {K : jM → Prop} (hK : ∀ J : jM, (∀ x, x < 37 ∨ 52 < x → J x = I x) → (∀ m, m < 2 ^ n → J 37 m = nI (lsB n a m) ∧ J 38 m = nI (lsW n a m)) → K J) : LE_reckon 36 1 I K := by
  have h4096 := pw12 hn
  have hpos : 0 < 2 ^ n := Nat.two_pow_pos n
  unfold LE_reckon
  intro v2 e2
  rw [xt.1] at e2
  subst e2
  refine ⟨fun _ => ?_, fun q => absurd (nI_le (a := n) (b := 12) hn (by omega)) q⟩
  unfold LE_reckon_14
  refine lp_n2 n (fun k v J => v = nI k ∧ (∀ x, x ≠ 40 + n → J x = I x) ∧ ∀ u, u < k → J (40 + n) u = mk (adj n a u)) ?_ ?_ (Nat.zero_le n) ⟨rfl, fun _ _ => rfl, fun u h => absurd h (Nat.not_lt_zero u)⟩
  · rintro k v J X hk ⟨rfl, j1, j2⟩ go
    unfold LE_reckon_14b
    dsimp only
    simp only [jrs, jws39]
    rw [clamp (show n < 2 ^ 31 by omega), clamp (show k < 2 ^ 31 by omega), j1 28 (by omega), xt.2.2.2.1 k hk]
    refine ⟨fun q => absurd q (ge_no hk (by omega)), fun _ => ⟨vp_in_nI (by omega) (by omega), vp_in_nI (by omega) (by omega), vp_in_nI (by omega) (by omega), fun J3 f3 => go _ _ ⟨nI_1 k, fun x hx => by rw [f3, jwr_ne hx]; exact j1 x hx, fun u hu => ?_⟩⟩⟩
    rw [f3, jwr_at]
    by_cases e : u = k
    · subst e; rw [if_pos ⟨rfl, rfl⟩]
    · rw [if_neg (fun e3 => e e3.2)]; exact j2 u (by omega)
  · rintro v J0 X ⟨rfl, j1, j2⟩
    unfold LE_reckon_14b
    dsimp only
    refine ⟨fun _ v3 e3 => ?_, fun q => absurd (nI_le (Nat.le_refl n) (by omega)) q⟩
    have eall : (1 : Int32) <<< (nI n &&& 31) - 1 = nI (2 ^ n - 1) := by
      rw [mk_all n (by omega), nI_mk (by omega)]
      apply mk_ext
      intro i _
      rw [Nat.testBit_two_pow_sub_one]
    rw [eall] at e3
    subst e3
    have nwn : ∀ m, NW n a m n J0 := fun m u hu _ => by
      rw [j2 u hu]
      have : bD n m n = [] := List.eq_nil_iff_forall_not_mem.mpr (fun z hz => by
        have := bD_mem.mp hz
        omega)
      rw [this]; rfl
    unfold LE_reckon_48
    refine lp_n2 (2 ^ n) (fun t v J => v = nI (2 ^ n - t) - 1 ∧ (∀ x, x < 37 ∨ 52 < x → J x = I x) ∧ (∀ m, NW n a m n J) ∧ (1 ≤ t → ∀ k, k ≤ n → NW n a (2 ^ n - t) k J) ∧ ∀ m, 2 ^ n - t ≤ m → m < 2 ^ n → J 37 m = nI (lsB n a m) ∧ J 38 m = nI (lsW n a m)) ?_ ?_ (Nat.zero_le _) ⟨by rw [Nat.sub_zero, show 2 ^ n = (2 ^ n - 1) + 1 by omega, nI_pred]; congr 1, fun x hx => j1 x (by omega), nwn, fun h => absurd h (by omega), fun m h1 h2 => absurd h1 (by omega)⟩
    · rintro t v J X ht ⟨rfl, k1, k2, k3, k4⟩ go
      obtain ⟨m, hme⟩ : ∃ m, m = 2 ^ n - 1 - t := ⟨_, rfl⟩
      have hm : m < 2 ^ n := by omega
      have e0 : nI (2 ^ n - t) - 1 = nI m := by rw [nI_dn ht]; congr 1; omega
      rw [e0]
      -- the rows for m
      have inner : ∀ c : Nat, c < 2 ^ 31 → (∀ k, k < n → c / 2 ^ k = 0 → NW n a m k J) → LE_reckon_77 36 (nI n) (nI (2 ^ n - 1)) (nI m) (nI c) (nI n - 1) J K X := by
        intro c hc hsk
        unfold LE_reckon_77
        refine lp_n2 n (fun s v J2 => v = nI (n - s) - 1 ∧ (∀ x, x < 40 ∨ 40 + n ≤ x → J2 x = J x) ∧ (∀ k, n - s ≤ k → k ≤ n → NW n a m k J2) ∧ ∀ k, k < n - s → J2 (40 + k) = J (40 + k)) ?_ ?_ (Nat.zero_le n) ⟨rfl, fun _ _ => rfl, fun k h1 h2 => by rw [show k = n by omega]; exact k2 m, fun _ _ => rfl⟩
        · rintro s v J2 X2 hsn ⟨rfl, l1, l2, l3⟩ go2
          obtain ⟨k, hke⟩ : ∃ k, k = n - 1 - s := ⟨_, rfl⟩
          have e1 : nI (n - s) - 1 = nI k := by rw [nI_dn hsn]; congr 1; omega
          rw [e1]
          unfold LE_reckon_77b
          dsimp only
          rw [pk_shrN (n := c) hc (nI k &&& 31) k (s_l k (by omega))]
          refine ⟨fun q => absurd q (nI_pos (by omega)), fun _ => ⟨fun q => go2 _ _ ⟨?_, l1, fun k' h1 h2 => ?_, fun k' hk' => l3 k' (by omega)⟩, fun q => t_makeNet hn hs hm (by omega) (l2 (k + 1) (by omega) (by omega)) (fun J3 m1 nw3 => go2 _ _ ⟨?_, fun x hx => by rw [m1 x (by omega)]; exact l1 x hx, fun k' h1 h2 => ?_, fun k' hk' => by rw [m1 _ (by omega)]; exact l3 k' (by omega)⟩)⟩⟩
          · rw [nI_m1, show n - (s + 1) = k by omega]
          · by_cases e : k' = k
            · subst e
              have hle : c / 2 ^ k' ≤ c := Nat.div_le_self _ _
              have : c / 2 ^ k' = 0 := (nI_eq (by omega) (by omega)).mp q
              exact (hsk k' (by omega) this).fr (l3 k' (by omega))
            · exact l2 k' (by omega) h2
          · rw [nI_m1, show n - (s + 1) = k by omega]
          · by_cases e : k' = k
            · rw [e]; exact nw3
            · exact (l2 k' (by omega) h2).fr (m1 _ (by omega))
        · rintro v J2 X2 ⟨rfl, l1, l2, l3⟩
          unfold LE_reckon_77b
          dsimp only
          rw [Nat.sub_self]
          refine ⟨fun _ => t_weigh hn1 hn hs hm (l2 0 (by omega) (by omega)) (fun u hu hb => ?_) (fun J3 m1 m37 m38 => go _ _ ⟨?_, fun x hx => by rw [m1 x (by omega) (by omega), l1 x (by omega)]; exact k1 x hx, fun m' => ?_, fun _ k hk => ?_, fun m' h1 h2 => ?_⟩), fun q => absurd (by decide) q⟩
          · have hgt : m < m ||| 2 ^ u := by
              have h1 : m ≤ m ||| 2 ^ u := Nat.left_le_or
              rcases Nat.lt_or_ge m (m ||| 2 ^ u) with h | h
              · exact h
              · have h2 : m ||| 2 ^ u = m := by omega
                have h3 := fb_bit_set m u u
                rw [h2, hb] at h3; simp at h3
            rw [l1 37 (by omega), l1 38 (by omega)]
            exact k4 _ (by omega) (or_lt hm hu)
          · rw [nI_m1, show 2 ^ n - (t + 1) = m by omega]
          · have := l2 n (by omega) (Nat.le_refl n)
            exact (k2 m').fr (by rw [m1 _ (by omega) (by omega), l1 _ (by omega)])
          · rw [show 2 ^ n - (t + 1) = m by omega]
            exact (l2 k (by omega) hk).fr (m1 _ (by omega) (by omega))
          · rw [m37, m38]
            by_cases e : m' = m
            · rw [if_pos e, if_pos e, e]; exact ⟨rfl, rfl⟩
            · rw [if_neg e, if_neg e, l1 37 (by omega), l1 38 (by omega)]
              exact k4 m' (by omega) h2
      unfold LE_reckon_48b
      dsimp only
      refine ⟨fun q => absurd q (nI_pos (by omega)), fun _ => ⟨fun q v5 e5 v6 e6 => ?_, fun q v6 e6 => ?_⟩⟩
      · have hne : m ≠ 2 ^ n - 1 := fun e => q (by rw [e])
        rw [nI_1, fb_xorI] at e5
        rw [e5, e6]
        have hx : m ^^^ (m + 1) < 2 ^ n := Nat.xor_lt_two_pow hm (by omega)
        refine inner _ (by omega) (fun k hk hz => ?_)
        have := k3 (by omega) k (by omega)
        rw [show 2 ^ n - t = m + 1 by omega] at this
        exact this.to hs (fun i h1 h2 => chg hz i h1)
      · rw [e6]
        refine inner _ (by omega) (fun k hk hz => ?_)
        exfalso
        rcases Nat.div_eq_zero_iff.mp hz with h | h
        · exact absurd h (Nat.ne_of_gt (Nat.two_pow_pos k))
        · have : 2 ^ (k + 1) ≤ 2 ^ n := Nat.pow_le_pow_right (by decide) hk
          rw [Nat.pow_succ] at this
          have := Nat.two_pow_pos k
          omega
    · rintro v J X ⟨rfl, k1, k2, k3, k4⟩
      unfold LE_reckon_48b
      dsimp only
      rw [Nat.sub_self]
      exact ⟨fun _ => hK J k1 (fun m hm => k4 m (by omega) hm), fun q => absurd (by decide) q⟩
end LX
