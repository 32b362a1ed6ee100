/-! ===== ring ===== -/
section RG
variable {n p : Nat} {a : Nat → Nat → Nat} {hd : Nat → Bool} {od pl sd : Nat → Nat} {I : jM} {g : Gr} {lv : Nat → Bool}
theorem t_joinedWith (hn : n ≤ 24) (hj : ∀ u, u < n → I 28 u = mk (g u)) (e : Nat → Bool) {K : Int32 → Prop} (hK : K (mk (fun y => (List.range n).any (fun u => e u && g u y)))) : RI_joinedWith (mk e) (nI n) 28 I K := by
  unfold RI_joinedWith RI_joinedWith_5
  refine lp_n2 n (fun k x v => v = nI k ∧ x = mk (fun y => (List.range k).any (fun u => e u && g u y))) ?_ ?_ (Nat.zero_le n) ⟨rfl, by rw [← mk_nil]; exact mk_ext (fun i _ => by simp)⟩
  · rintro k x v X hk ⟨rfl, rfl⟩ go
    unfold RI_joinedWith_5b
    dsimp only
    rw [mk_tst1 _ (by omega), clamp (show k < 2 ^ 31 by omega), hj k hk]
    refine ⟨fun q => absurd q (ge_no hk (by omega)), fun _ => ⟨fun q => go _ _ ⟨nI_1 k, ?_⟩, fun q => ⟨by rw [show jl 28 = 24 by decide +kernel]; exact vp_in_nI (by omega) (by omega), fun v3 e3 => go _ _ ⟨nI_1 k, ?_⟩⟩⟩⟩
    · apply mk_ext
      intro y _
      rw [any_succ]
      simp [show e k = false by simpa using q]
    · rw [e3, mk_or]
      apply mk_ext
      intro y _
      rw [any_succ, q]; simp
  · rintro x v X ⟨rfl, rfl⟩
    unfold RI_joinedWith_5b
    dsimp only
    exact ⟨fun _ => hK, fun q => absurd (nI_le (Nat.le_refl n) (by omega)) q⟩
theorem rch_iff {n : Nat} {e : Nat → Bool} {g : Gr} {y : Nat} : (List.range n).any (fun u => e u && g u y) = true ↔ ∃ u, u < n ∧ e u = true ∧ g u y = true := by
  rw [any_iff]
  constructor
  · rintro ⟨u, h1, h2⟩
    rw [Bool.and_eq_true] at h2
    exact ⟨u, h1, h2.1, h2.2⟩
  · rintro ⟨u, h1, h2, h3⟩
    exact ⟨u, h1, by rw [h2, h3]; rfl⟩
theorem Tv_iff {v z : Nat} : Tv n g v z = true ↔ z < n ∧ g v z = false ∧ z ≠ v := by
  unfold Tv
  simp only [Bool.and_eq_true, decide_eq_true_eq, Bool.not_eq_true', decide_eq_false_iff_not, and_assoc]
theorem t_along {v x : Nat} (hn : n ≤ 24) (hG : GG n lv g) (hj : ∀ u, u < n → I 28 u = mk (g u)) (hv : v < n) (hx : x < n) (hvx : g v x = true) {K : Int32 → Prop} (hK : ∀ r, r ≤ 26 → Psp (RX n g v x) r → K (nI r)) : RI_along (nI v) (nI x) (nI n) 28 I K := by
  have hjl : jl 28 = 24 := by decide +kernel
  obtain ⟨T, hT⟩ : ∃ T : Nat → Bool, T = Tv n g v := ⟨_, rfl⟩
  have hTn : ∀ z, T z = true → z < n := fun z hz => by rw [hT] at hz; exact (Tv_iff.mp hz).1
  have hTx : T x = false := by
    cases h : T x with
    | false => rfl
    | true =>
      rw [hT] at h
      have := (Tv_iff.mp h).2.1
      rw [hvx] at this; cases this
  obtain ⟨ends, hE⟩ : ∃ ends : Nat → Bool, ends = fun y => (g v y && !g x y) && !decide (y = x) := ⟨_, rfl⟩
  have hEi : ∀ y, ends y = true ↔ g v y = true ∧ g x y = false ∧ y ≠ x := fun y => by
    rw [hE]
    simp only [Bool.and_eq_true, Bool.not_eq_true', decide_eq_false_iff_not, and_assoc]
  unfold RI_along
  rw [clamp (show v < 2 ^ 31 by omega), clamp (show x < 2 ^ 31 by omega), hj v hv, hj x hx, mk_one (show x < 24 by omega), mk_one (show v < 24 by omega), mk_diff, mk_diff, hjl]
  refine ⟨vp_in_nI (by omega) (by omega), vp_in_nI (by omega) (by omega), fun v4 e4 => ⟨vp_in_nI (by omega) (by omega), fun v5 e5 v6 e6 => ?_⟩⟩
  have e4 : v4 = mk ends := by rw [e4, hE]
  subst e4 e6
  unfold RI_along_38
  have none : ∀ t, (∀ z, ¬ Ly g T x t z) → (∀ y, ends y = true → Nw g T x t y) → K 0 := fun t he hno => hK 0 (by omega) (Or.inl ⟨rfl, fun k hk ⟨_, y, h1, h2, h3, h4⟩ => by
    rw [← hT] at h4
    rcases ly_exit he k y h4 with h | ⟨j, j1, j2, j3⟩
    · omega
    · exact hno y ((hEi y).mpr ⟨h1, h2, h3⟩) j j1 j2 j3⟩)
  have lyn : ∀ t z, Ly g T x t z → z < n := fun t z h => by
    rcases h with ⟨-, h⟩ | ⟨-, h, -⟩
    · omega
    · exact hTn z h
  refine lp_n3 n (fun t f5 e6 s7 => s7 = nI t ∧ ∃ f e : Nat → Bool, e6 = mk e ∧ (∀ h : Nat → Bool, (∀ i, h i = true → i < n) → mk h &&& f5 = mk (fun i => h i && f i)) ∧ (∀ z, e z = true ↔ Ly g T x t z) ∧ (∀ z, f z = true ↔ T z = true ∧ Nw g T x t z) ∧ (∀ y, ends y = true → Nw g T x t y) ∧ ((∃ z, e z = true) → t ≤ fb_ct (fun z => T z && !f z) n)) ?_ ?_ (Nat.zero_le n) ⟨rfl, T, (fun i => decide (i = x)), rfl, fun h hh => ?_, fun z => ?_, fun z => ?_, fun y _ j j1 j2 => absurd j2 (by omega), fun _ => Nat.zero_le _⟩
  · rintro t f5 e6 s7 X ht ⟨rfl, f, e, rfl, i1, i2, i3, i4, i5⟩ go
    unfold RI_along_38b
    dsimp only
    refine ⟨fun q => absurd q (ge_no ht (by omega)), fun _ => ⟨fun q => ?_, fun q => t_joinedWith hn hj e ?_⟩⟩
    · refine none t (fun z hz => ?_) i4
      have h1 := (i2 z).mpr hz
      have h2 := mk_zero.mp q z (by have := lyn t z hz; omega)
      rw [h1] at h2; cases h2
    · obtain ⟨rc, hrc⟩ : ∃ rc : Nat → Bool, rc = fun y => (List.range n).any (fun u => e u && g u y) := ⟨_, rfl⟩
      rw [← hrc]
      have hri : ∀ y, rc y = true ↔ ∃ z, Ly g T x t z ∧ g z y = true := fun y => by
        rw [hrc, rch_iff]
        constructor
        · rintro ⟨u, h1, h2, h3⟩
          exact ⟨u, (i2 u).mp h2, h3⟩
        · rintro ⟨u, h1, h2⟩
          exact ⟨u, lyn t u h1, (i2 u).mpr h1, h2⟩
      have hrn : ∀ y, rc y = true → y < n := fun y hy => by
        obtain ⟨z, -, h2⟩ := (hri y).mp hy
        exact (hG z y h2).2.1
      rw [mk_and]
      refine ⟨fun q2 v6 e6 v5 e5 => ?_, fun q2 => ?_⟩
      · rw [i1 rc hrn] at e6
        subst e6
        have hno : ∀ y, ends y = true → rc y = false := fun y hy => by
          have h1 := mk_zero.mp q2 y (by have := (hG v y ((hEi y).mp hy).1).2.1; omega)
          rw [hy, Bool.and_true] at h1
          exact h1
        have e' : ∀ z, (rc z && f z) = true ↔ Ly g T x (t + 1) z := fun z => by
          rw [Bool.and_eq_true, i3 z]
          constructor
          · rintro ⟨h1, h2, h3⟩
            exact Or.inr ⟨by omega, h2, (ly_next h3).mp ((hri z).mp h1), fun j j1 j2 => h3 j j1 (by omega)⟩
          · rintro (⟨h1, -⟩ | ⟨-, h2, h3, h4⟩)
            · omega
            · have hnw : Nw g T x t z := fun j j1 j2 => h4 j j1 (by omega)
              exact ⟨(hri z).mpr ((ly_next hnw).mpr h3), h2, hnw⟩
        refine go _ _ _ ⟨nI_1 t, (fun z => f z && !(rc z && f z)), (fun z => rc z && f z), rfl, fun h hh => ?_, e', fun z => ?_, fun y hy j j1 j2 => ?_, fun hex => ?_⟩
        · rw [e5, ← Int32.and_assoc, i1 h hh, mk_diff]
          apply mk_ext
          intro i _
          rw [Bool.and_assoc]
        · rw [Bool.and_eq_true, Bool.not_eq_true']
          constructor
          · rintro ⟨h1, h2⟩
            obtain ⟨h3, h4⟩ := (i3 z).mp h1
            refine ⟨h3, fun j j1 j2 hw => ?_⟩
            rcases Nat.lt_or_ge t j with h5 | h5
            · have e0 : j = t + 1 := by omega
              subst e0
              have := (hri z).mpr ((ly_next h4).mpr hw)
              rw [this, h1] at h2; cases h2
            · exact h4 j j1 h5 hw
          · rintro ⟨h1, h2⟩
            have h4 : Nw g T x t z := fun j j1 j2 => h2 j j1 (by omega)
            refine ⟨(i3 z).mpr ⟨h1, h4⟩, ?_⟩
            cases hr : rc z with
            | false => rfl
            | true => exact absurd ((ly_next h4).mp ((hri z).mp hr)) (h2 (t + 1) (by omega) (Nat.le_refl _))
        · rcases Nat.lt_or_ge t j with h5 | h5
          · have e0 : j = t + 1 := by omega
            subst e0
            intro hw
            have := (hri y).mpr ((ly_next (i4 y hy)).mpr hw)
            rw [hno y hy] at this; cases this
          · exact i4 y hy j j1 h5
        · obtain ⟨z, hz⟩ := hex
          have hz2 := hz
          rw [Bool.and_eq_true] at hz2
          have hTz := ((i3 z).mp hz2.2).1
          have hne : ∃ z, e z = true := by
            apply Classical.byContradiction
            intro hc
            apply q
            rw [mk_zero]
            intro i _
            cases h : e i with
            | false => rfl
            | true => exact absurd ⟨i, h⟩ hc
          have := i5 hne
          have := ct_less (s := fun z => T z && !f z) (t := fun z => T z && !(f z && !(rc z && f z))) (hTn z hTz) (fun k _ hk => by
            rw [Bool.and_eq_true, Bool.not_eq_true'] at hk
            rw [hk.1, hk.2]; rfl) (by rw [hz2.2]; simp) (by rw [hTz, hz2.1, hz2.2]; rfl)
          show t + 1 ≤ fb_ct (fun z => T z && !(f z && !(rc z && f z))) n
          omega
      · rw [show (3 : Int32) = nI 3 from rfl, nI_add]
        have hex : ∃ y, ends y = true ∧ rc y = true := by
          apply Classical.byContradiction
          intro hc
          apply q2
          rw [mk_zero]
          intro i _
          cases h1 : rc i with
          | false => rfl
          | true =>
            cases h2 : ends i with
            | false => rfl
            | true => exact absurd ⟨i, h2, h1⟩ hc
        obtain ⟨y, hy1, hy2⟩ := hex
        refine hK (t + 3) (by omega) (Or.inr ⟨t + 1, by omega, rfl, ⟨hvx, y, ((hEi y).mp hy1).1, ((hEi y).mp hy1).2.1, ((hEi y).mp hy1).2.2, ?_⟩, ?_⟩)
        · rw [← hT]
          exact (ly_next (i4 y hy1)).mp ((hri y).mp hy2)
        · rintro j j1 j2 ⟨-, y', h1, h2, h3, h4⟩
          rw [← hT] at h4
          exact i4 y' ((hEi y').mpr ⟨h1, h2, h3⟩) j j1 (by omega) h4
  · rintro f5 e6 s7 X ⟨rfl, f, e, rfl, i1, i2, i3, i4, i5⟩
    unfold RI_along_38b
    dsimp only
    refine ⟨fun _ => none n (fun z hz => ?_) i4, fun q => absurd (nI_le (Nat.le_refl n) (by omega)) q⟩
    have h1 := i5 ⟨z, (i2 z).mpr hz⟩
    have h2 := fb_ct_le (fun z => T z && !f z) n
    have h3 := fb_ct_all.mp (show fb_ct (fun z => T z && !f z) n = n by omega) x hx
    rw [hTx] at h3; simp at h3
  · rw [e5, ← Int32.and_assoc, mk_diff, mk_diff]
    apply mk_ext
    intro i _
    rw [hT]
    unfold Tv
    cases h1 : h i with
    | false => simp
    | true => simp [hh i h1]
  · rw [decide_eq_true_eq]
    constructor
    · intro h; exact Or.inl ⟨rfl, h⟩
    · rintro (⟨-, h⟩ | ⟨h, -⟩)
      · exact h
      · omega
  · constructor
    · intro h; exact ⟨h, fun j j1 j2 => absurd j2 (by omega)⟩
    · exact fun h => h.1
theorem t_shortest (hn : n ≤ 24) (hG : GG n lv g) (hj : ∀ u, u < n → I 28 u = mk (g u)) {K : Int32 → Prop} (hK : ∀ r, r ≤ 26 → Psp (fun k => ∃ v, v < n ∧ ∃ x, x < n ∧ RX n g v x k) r → K (nI r)) : RI_shortest (nI n) 28 I K := by
  have hjl : jl 28 = 24 := by decide +kernel
  unfold RI_shortest RI_shortest_4
  refine lp_n2 n (fun v b c => c = nI v ∧ ∃ r, r ≤ 26 ∧ b = nI r ∧ Psp (fun k => ∃ v', v' < v ∧ ∃ x, x < n ∧ RX n g v' x k) r) ?_ ?_ (Nat.zero_le n) ⟨rfl, 0, by omega, rfl, Psp.nil (fun k ⟨v', h, _⟩ => absurd h (Nat.not_lt_zero v'))⟩
  · rintro v b c X hv ⟨rfl, r, hr, rfl, hp⟩ go
    unfold RI_shortest_4b
    dsimp only
    refine ⟨fun q => absurd q (ge_no hv (by omega)), fun _ => ?_⟩
    unfold RI_shortest_12
    refine lp_n2 n (fun x b c => c = nI x ∧ ∃ r, r ≤ 26 ∧ b = nI r ∧ Psp (fun k => (∃ v', v' < v ∧ ∃ x, x < n ∧ RX n g v' x k) ∨ ∃ x', x' < x ∧ RX n g v x' k) r) ?_ ?_ (Nat.zero_le n) ⟨rfl, r, hr, rfl, hp.congr (fun k _ => ⟨Or.inl, fun h => h.elim id (fun ⟨x', h, _⟩ => absurd h (Nat.not_lt_zero x'))⟩)⟩
    · rintro x b c X2 hx ⟨rfl, r, hr, rfl, hp⟩ go2
      have comb : ∀ s, s ≤ 26 → Psp (RX n g v x) s → RI_shortest_42 (nI n) 28 (nI r) (nI v) (nI x) (nI s) I K X X2 := fun s hs hps => by
        have fin : ∀ b : Int32, b = nI (cmb r s) → X2 (b, nI x + 1) := fun b hb => go2 _ _ ⟨nI_1 x, cmb r s, cmb_le hr hs, hb, (hp.or hps).congr (fun k _ => ⟨fun h => by
          rcases h with (h | ⟨x', h1, h2⟩) | h
          · exact Or.inl h
          · exact Or.inr ⟨x', by omega, h2⟩
          · exact Or.inr ⟨x, by omega, h⟩, fun h => by
          rcases h with h | ⟨x', h1, h2⟩
          · exact Or.inl (Or.inl h)
          · by_cases e : x' = x
            · rw [e] at h2; exact Or.inr h2
            · exact Or.inl (Or.inr ⟨x', by omega, h2⟩)⟩)⟩
        unfold RI_shortest_42
        refine ⟨fun q => fin _ ?_, fun q => ⟨fun q2 => fin _ ?_, fun q2 => ⟨fun q3 => fin _ ?_, fun q3 => fin _ ?_⟩⟩⟩
        · have : s = 0 := (nI_eq (by omega) (by omega)).mp q
          unfold cmb; rw [if_pos this]
        · have h1 : s ≠ 0 := fun e => q (by rw [e]; rfl)
          have h2 : r = 0 := (nI_eq (by omega) (by omega)).mp q2
          unfold cmb; rw [if_neg h1, if_pos h2]
        · have h1 : s ≠ 0 := fun e => q (by rw [e]; rfl)
          have h2 : r ≠ 0 := fun e => q2 (by rw [e]; rfl)
          have h3 : r ≤ s := (nI_leI (by omega) (by omega)).mp q3
          unfold cmb; rw [if_neg h1, if_neg h2, if_pos h3]
        · have h1 : s ≠ 0 := fun e => q (by rw [e]; rfl)
          have h2 : r ≠ 0 := fun e => q2 (by rw [e]; rfl)
          have h3 : ¬ r ≤ s := fun e => q3 ((nI_leI (by omega) (by omega)).mpr e)
          unfold cmb; rw [if_neg h1, if_neg h2, if_neg h3]
      unfold RI_shortest_12b
      dsimp only
      rw [clamp (show v < 2 ^ 31 by omega), hj v hv, mk_tst1 _ (by omega), hjl]
      refine ⟨fun q => absurd q (ge_no hx (by omega)), fun _ => ⟨vp_in_nI (by omega) (by omega), fun q => comb 0 (by omega) (Psp.nil (fun k h => q h.1)), fun q => t_along hn hG hj hv hx q comb⟩⟩
    · rintro b c X2 ⟨rfl, r, hr, rfl, hp⟩
      unfold RI_shortest_12b
      dsimp only
      refine ⟨fun _ => go _ _ ⟨nI_1 v, r, hr, rfl, hp.congr (fun k _ => ⟨fun h => by
        rcases h with ⟨v', h1, h2⟩ | ⟨x', h1, h2⟩
        · exact ⟨v', by omega, h2⟩
        · exact ⟨v, by omega, x', h1, h2⟩, fun ⟨v', h1, h2⟩ => by
        by_cases e : v' = v
        · rw [e] at h2; exact Or.inr h2
        · exact Or.inl ⟨v', by omega, h2⟩⟩)⟩, fun q => absurd (nI_le (Nat.le_refl n) (by omega)) q⟩
  · rintro b c X ⟨rfl, r, hr, rfl, hp⟩
    unfold RI_shortest_4b
    dsimp only
    exact ⟨fun _ => hK r hr hp, fun q => absurd (nI_le (Nat.le_refl n) (by omega)) q⟩
end RG
