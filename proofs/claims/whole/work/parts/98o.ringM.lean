/-! ===== ring, the reference's side ===== -/
def Ssp (g : Gr) (T : Nat → Bool) (x y k : Nat) : Prop := (k = 0 ∧ ∀ j, 1 ≤ j → ¬ Wk g T x j y) ∨ (1 ≤ k ∧ Wk g T x k y ∧ ∀ j, 1 ≤ j → j < k → ¬ Wk g T x j y)
section RGM
variable {n p : Nat} {a : Nat → Nat → Nat} {hd : Nat → Bool} {od pl sd : Nat → Nat} {I : jM} {g : Gr} {lv : Nat → Bool}
theorem tM_steps {T : Nat → Bool} {x y : Nat} (hn : n ≤ 24) (hG : GG n lv g) (h0 : I 100 0 = nI n) (h6 : ∀ u, u < n → I 106 u = mk (g u)) (hx : x < n) (hy : y < n) (hxy : x ≠ y) (hTn : ∀ z, T z = true → z < n) (hTx : T x = false) (hTy : T y = false) {K : Int32 → Prop} (hK : ∀ k, k ≤ 25 → Ssp g T x y k → K (nI k)) : MD_steps 100 (nI x) (nI y) (mk T) I K := by
  have lyn : ∀ t z, Ly g T x t z → z < n := fun t z h => by
    rcases h with ⟨-, h⟩ | ⟨-, h, -⟩
    · omega
    · exact hTn z h
  unfold MD_steps
  rw [mk_one (by omega)]
  intro v4 e4 v5 e5
  subst e4 e5
  unfold MD_steps_13
  intro X hX
  have key : ∀ (F t : Nat) (s e : Nat → Bool), n + 1 ≤ F + t → (∀ z, e z = true ↔ Ly g T x t z) → (∀ z, s z = true ↔ z = x ∨ (T z = true ∧ ¬ Nw g T x t z)) → Nw g T x t y → ((∃ z, e z = true) → t ≤ fb_ct (fun z => T z && s z) n) → X (mk s, mk e, nI t) := by
    intro F
    induction F with
    | zero =>
      intro t s e hF i2 i3 i4 i5
      have hemp : ∀ z, ¬ Ly g T x t z := fun z hz => by
        have h1 := i5 ⟨z, (i2 z).mpr hz⟩
        have h2 := fb_ct_le (fun z => T z && s z) n
        omega
      apply hX
      unfold MD_steps_13b
      dsimp only
      refine ⟨fun _ => hK 0 (by omega) (Or.inl ⟨rfl, fun j j1 hw => ?_⟩), fun q => absurd (mk_zero.mpr (fun i _ => ?_)) q⟩
      · rcases ly_exit hemp j y hw with h | ⟨i, h1, h2, h3⟩
        · omega
        · exact i4 i h1 h2 h3
      · cases h : e i with
        | false => rfl
        | true => exact absurd ((i2 i).mp h) (hemp i)
    | succ F ih =>
      intro t s e hF i2 i3 i4 i5
      apply hX
      unfold MD_steps_13b
      dsimp only
      refine ⟨fun q => hK 0 (by omega) (Or.inl ⟨rfl, fun j j1 hw => ?_⟩), fun q => ?_⟩
      · have hemp : ∀ z, ¬ Ly g T x t z := fun z hz => by
          have h1 := (i2 z).mpr hz
          have h2 := mk_zero.mp q z (by have := lyn t z hz; omega)
          rw [h1] at h2; cases h2
        rcases ly_exit hemp j y hw with h | ⟨i, h1, h2, h3⟩
        · omega
        · exact i4 i h1 h2 h3
      · have hne : ∃ z, e z = true := by
          apply Classical.byContradiction
          intro hc
          apply q
          rw [mk_zero]
          intro i _
          cases h : e i with
          | false => rfl
          | true => exact absurd ⟨i, h⟩ hc
        have htn := i5 hne
        have hctn : fb_ct (fun z => T z && s z) n < n := by
          have h1 := fb_ct_le (fun z => T z && s z) n
          rcases Nat.lt_or_ge (fb_ct (fun z => T z && s z) n) n with h | h
          · exact h
          · have h3 := fb_ct_all.mp (show fb_ct (fun z => T z && s z) n = n by omega) x hx
            rw [hTx] at h3; simp at h3
        unfold MD_steps_24
        refine lp_n2 n (fun k x v => v = nI k ∧ x = mk (fun y => (List.range k).any (fun w => e w && g w y))) ?_ ?_ (Nat.zero_le n) ⟨rfl, by rw [← mk_nil]; exact mk_ext (fun i _ => by simp)⟩
        · rintro k x v X2 hk ⟨rfl, rfl⟩ go
          unfold MD_steps_24b
          dsimp only
          simp only [jrs]
          rw [h0, mk_tst1 _ (by omega), clamp (show k < 2 ^ 31 by omega), h6 k hk]
          refine ⟨fun q => absurd q (ge_no hk (by omega)), fun _ => ⟨fun q v6 e6 => go _ _ ⟨nI_1 k, ?_⟩, fun q => ⟨vp_in_nI (by omega) (by omega), fun v6 e6 => go _ _ ⟨nI_1 k, ?_⟩⟩⟩⟩
          · rw [e6, show (0 : Int32) = mk (fun _ => false) from mk_nil.symm, mk_or]
            apply mk_ext
            intro y _
            rw [any_succ]
            simp [show e k = false by simpa using q]
          · rw [e6, mk_or]
            apply mk_ext
            intro y _
            rw [any_succ, q]; simp
        · rintro _ v X2 ⟨rfl, rfl⟩
          obtain ⟨rc, hrc⟩ : ∃ rc : Nat → Bool, rc = fun y => (List.range n).any (fun u => e u && g u y) := ⟨_, rfl⟩
          have hri : ∀ y, rc y = true ↔ ∃ z, Ly g T x t z ∧ g z y = true := fun y => by
            rw [hrc, rch_iff]
            constructor
            · rintro ⟨u, h1, h2, h3⟩
              exact ⟨u, (i2 u).mp h2, h3⟩
            · rintro ⟨u, h1, h2⟩
              exact ⟨u, lyn t u h1, (i2 u).mpr h1, h2⟩
          rw [← hrc]
          unfold MD_steps_24b
          dsimp only
          rw [h0, mk_one (show y < 24 by omega), mk_or, mk_ndiff, mk_and]
          refine ⟨fun _ v7 e7 => ?_, fun q => absurd (nI_le (Nat.le_refl n) (by omega)) q⟩
          obtain ⟨nx, hnx⟩ : ∃ nx : Nat → Bool, nx = fun i => rc i && ((T i || decide (i = y)) && !s i) := ⟨_, rfl⟩
          rw [← hnx] at e7
          subst e7
          have hsy : s y = false := by
            cases h : s y with
            | false => rfl
            | true =>
              rcases (i3 y).mp h with h1 | h1
              · exact absurd h1.symm hxy
              · rw [hTy] at h1; exact absurd h1.1 (by decide)
          have hny : nx y = true ↔ Wk g T x (t + 1) y := by
            rw [← ly_next i4, ← hri y, hnx]
            simp [hsy]
          rw [mk_tst1 _ (by omega), nI_1]
          refine ⟨fun q2 v4 e4 => ?_, fun q2 => hK (t + 1) (by omega) (Or.inr ⟨by omega, hny.mp q2, fun j j1 j2 => i4 j j1 (by omega)⟩)⟩
          rw [mk_or] at e4
          subst e4
          have hi : ∀ z, nx z = true ↔ Ly g T x (t + 1) z := fun z => by
            by_cases ezy : z = y
            · rw [ezy]
              constructor
              · intro h; exact absurd h q2
              · rintro (⟨h1, -⟩ | ⟨-, h2, -⟩)
                · omega
                · rw [hTy] at h2; cases h2
            · have e1 : nx z = true ↔ rc z = true ∧ T z = true ∧ s z = false := by
                rw [hnx]
                simp [ezy]
              rw [e1]
              constructor
              · rintro ⟨h1, h2, h3⟩
                have hnw : Nw g T x t z := Classical.byContradiction (fun hc => by
                  have := (i3 z).mpr (Or.inr ⟨h2, hc⟩)
                  rw [h3] at this; cases this)
                exact Or.inr ⟨by omega, h2, (ly_next hnw).mp ((hri z).mp h1), fun j j1 j2 => hnw j j1 (by omega)⟩
              · rintro (⟨h1, -⟩ | ⟨-, h2, h3, h4⟩)
                · omega
                · have hnw : Nw g T x t z := fun j j1 j2 => h4 j j1 (by omega)
                  refine ⟨(hri z).mpr ((ly_next hnw).mpr h3), h2, ?_⟩
                  cases h : s z with
                  | false => rfl
                  | true =>
                    rcases (i3 z).mp h with h5 | h5
                    · rw [h5, hTx] at h2; cases h2
                    · exact absurd hnw h5.2
          refine ih (t + 1) _ _ (by omega) hi (fun z => ?_) (fun j j1 j2 => ?_) (fun hex => ?_)
          · rw [Bool.or_eq_true, i3 z, hi z]
            constructor
            · rintro ((h1 | ⟨h1, h2⟩) | h1)
              · exact Or.inl h1
              · exact Or.inr ⟨h1, fun hc => h2 (fun j j1 j2 => hc j j1 (by omega))⟩
              · rcases h1 with ⟨h1, -⟩ | ⟨-, h2, h3, -⟩
                · omega
                · exact Or.inr ⟨h2, fun hc => hc (t + 1) (by omega) (Nat.le_refl _) h3⟩
            · rintro (h1 | ⟨h1, h2⟩)
              · exact Or.inl (Or.inl h1)
              · by_cases hnw : Nw g T x t z
                · right
                  refine Or.inr ⟨by omega, h1, ?_, fun j j1 j2 => hnw j j1 (by omega)⟩
                  apply Classical.byContradiction
                  intro hc
                  apply h2
                  intro j j1 j2
                  rcases Nat.lt_or_ge t j with h5 | h5
                  · have e0 : j = t + 1 := by omega
                    rw [e0]; exact hc
                  · exact hnw j j1 h5
                · exact Or.inl (Or.inr ⟨h1, hnw⟩)
          · rcases Nat.lt_or_ge t j with h5 | h5
            · have e0 : j = t + 1 := by omega
              subst e0
              exact fun hw => q2 (hny.mpr hw)
            · exact i4 j j1 h5
          · obtain ⟨z, hz⟩ := hex
            have hL := (hi z).mp hz
            rcases hL with ⟨h1, -⟩ | ⟨-, hTz, -, -⟩
            · omega
            · have hsz : s z = false := by
                rw [hnx] at hz
                simp at hz
                exact hz.2.2
              have := ct_less (s := fun z => T z && s z) (t := fun z => T z && (s z || nx z)) (hTn z hTz) (fun k _ hk => by
                rw [Bool.and_eq_true] at hk
                rw [hk.1, hk.2]; rfl) (by rw [hsz]; simp) (by rw [hTz, hz]; simp)
              omega
  refine key (n + 1) 0 _ _ (by omega) (fun z => ?_) (fun z => ?_) (fun j j1 j2 => absurd j2 (by omega)) (fun _ => Nat.zero_le _)
  · rw [decide_eq_true_eq]
    constructor
    · intro h; exact Or.inl ⟨rfl, h⟩
    · rintro (⟨-, h⟩ | ⟨h, -⟩)
      · exact h
      · omega
  · rw [decide_eq_true_eq]
    constructor
    · exact Or.inl
    · rintro (h | ⟨-, h⟩)
      · exact h
      · exact absurd (fun j j1 j2 => absurd j2 (by omega)) h
theorem tM_ring (hn : n ≤ 24) (hG : GG n lv g) (h0 : I 100 0 = nI n) (h6 : ∀ u, u < n → I 106 u = mk (g u)) {K : Int32 → jM → Prop} (hK : ∀ r, r ≤ 27 → Psp (fun k => ∃ v, v < n ∧ ∃ x, x < n ∧ ∃ y, x < y ∧ y < n ∧ RM n g v x y k) r → K (nI r) I) : MD_ring_8 100 0 0 I K := by
  unfold MD_ring_8
  refine lp_n2 n (fun v b c => c = nI v ∧ ∃ r, r ≤ 27 ∧ b = nI r ∧ Psp (fun k => ∃ v', v' < v ∧ ∃ x, x < n ∧ ∃ y, x < y ∧ y < n ∧ RM n g v' x y k) r) ?_ ?_ (Nat.zero_le n) ⟨rfl, 0, by omega, rfl, Psp.nil (fun k ⟨v', h, _⟩ => absurd h (Nat.not_lt_zero v'))⟩
  · rintro v b c X hv ⟨rfl, r, hr, rfl, hp⟩ go
    unfold MD_ring_8b
    dsimp only
    simp only [jrs]
    rw [h0, clamp (show v < 2 ^ 31 by omega), h6 v hv, mk_all n hn, mk_diff, mk_one (by omega), mk_diff]
    refine ⟨fun q => absurd q (ge_no hv (by omega)), fun _ => ⟨vp_in_nI (by omega) (by omega), fun v3 e3 => ?_⟩⟩
    have e3 : v3 = mk (Tv n g v) := by rw [e3]; rfl
    subst e3
    unfold MD_ring_43
    refine lp_n2 n (fun x b c => c = nI x ∧ ∃ r, r ≤ 27 ∧ b = nI r ∧ Psp (fun k => (∃ v', v' < v ∧ ∃ x, x < n ∧ ∃ y, x < y ∧ y < n ∧ RM n g v' x y k) ∨ ∃ x', x' < x ∧ ∃ y, x' < y ∧ y < n ∧ RM n g v x' y k) r) ?_ ?_ (Nat.zero_le n) ⟨rfl, r, hr, rfl, hp.congr (fun k _ => ⟨Or.inl, fun h => h.elim id (fun ⟨x', h, _⟩ => absurd h (Nat.not_lt_zero x'))⟩)⟩
    · rintro x b c X2 hx ⟨rfl, r, hr, rfl, hp⟩ go2
      unfold MD_ring_43b
      dsimp only
      rw [h0]
      refine ⟨fun q => absurd q (ge_no hx (by omega)), fun _ v5 e5 => ?_⟩
      rw [nI_1] at e5
      subst e5
      unfold MD_ring_58
      refine lp_n2 n (fun y b c => c = nI y ∧ x < y ∧ ∃ r, r ≤ 27 ∧ b = nI r ∧ Psp (fun k => ((∃ v', v' < v ∧ ∃ x, x < n ∧ ∃ y, x < y ∧ y < n ∧ RM n g v' x y k) ∨ ∃ x', x' < x ∧ ∃ y, x' < y ∧ y < n ∧ RM n g v x' y k) ∨ ∃ y', x < y' ∧ y' < y ∧ RM n g v x y' k) r) ?_ ?_ (show x + 1 ≤ n by omega) ⟨rfl, by omega, r, hr, rfl, hp.congr (fun k _ => ⟨Or.inl, fun h => h.elim id (fun ⟨y', h1, h2, _⟩ => absurd h2 (by omega))⟩)⟩
      · rintro y b c X3 hy ⟨rfl, hxy, r, hr, rfl, hp⟩ go3
        have comb : ∀ k, k ≤ 25 → Psp (RM n g v x y) (if k = 0 then 0 else k + 2) → MD_ring_137 100 (nI r) (nI v) (mk (Tv n g v)) (nI x) (nI y) (nI k) I K X X2 X3 := fun k hk hps => by
          obtain ⟨s, hs⟩ : ∃ s, s = if k = 0 then 0 else k + 2 := ⟨_, rfl⟩
          rw [← hs] at hps
          have hs27 : s ≤ 27 := by rw [hs]; split <;> omega
          have fin : ∀ b : Int32, b = nI (cmb r s) → X3 (b, nI y + 1) := fun b hb => go3 _ _ ⟨nI_1 y, by omega, cmb r s, cmb_le hr hs27, hb, (hp.or hps).congr (fun k _ => ⟨fun h => by
            rcases h with (h | ⟨y', h1, h2, h3⟩) | h
            · exact Or.inl h
            · exact Or.inr ⟨y', h1, by omega, h3⟩
            · exact Or.inr ⟨y, hxy, by omega, h⟩, fun h => by
            rcases h with h | ⟨y', h1, h2, h3⟩
            · exact Or.inl (Or.inl h)
            · by_cases e : y' = y
              · rw [e] at h3; exact Or.inr h3
              · exact Or.inl (Or.inr ⟨y', h1, by omega, h3⟩)⟩)⟩
          unfold MD_ring_137
          rw [show (2 : Int32) = nI 2 from rfl, nI_add]
          refine ⟨fun q => fin _ ?_, fun q => ?_⟩
          · have h1 : k = 0 := by
              have := (nI_leI (a := k) (b := 0) (by omega) (by omega)).mp q
              omega
            unfold cmb; rw [if_pos (by rw [hs, if_pos h1])]
          · have h1 : k ≠ 0 := fun e => q (by rw [e]; decide)
            have hs2 : s = k + 2 := by rw [hs, if_neg h1]
            refine ⟨fun q2 v1 e1 => fin _ ?_, fun q2 => ⟨fun q3 => fin _ ?_, fun q3 v1 e1 => fin _ ?_⟩⟩
            · have h2 : r = 0 := (nI_eq (by omega) (by omega)).mp q2
              unfold cmb; rw [e1, if_neg (by omega), if_pos h2, hs2]
            · have h2 : r ≠ 0 := fun e => q2 (by rw [e]; rfl)
              have h3 : r ≤ k + 2 := (nI_leI (by omega) (by omega)).mp q3
              unfold cmb; rw [if_neg (by omega), if_neg h2, if_pos (by omega)]
            · have h2 : r ≠ 0 := fun e => q2 (by rw [e]; rfl)
              have h3 : ¬ r ≤ k + 2 := fun e => q3 ((nI_leI (by omega) (by omega)).mpr e)
              unfold cmb; rw [e1, if_neg (by omega), if_neg h2, if_neg (by omega), hs2]
        have no : (∀ k, ¬ RM n g v x y k) → MD_ring_117 100 (nI r) (nI v) (mk (Tv n g v)) (nI x) (nI y) 0 I K X X2 X3 := fun hno => by
          unfold MD_ring_117
          exact ⟨fun _ => comb 0 (by omega) (Psp.nil hno), fun q => absurd rfl q⟩
        unfold MD_ring_58b
        dsimp only
        simp only [jrs]
        rw [h0, clamp (show v < 2 ^ 31 by omega), clamp (show x < 2 ^ 31 by omega), h6 v hv, h6 x hx, mk_tst1 _ (by omega), mk_tst1 _ (by omega), mk_tst0 _ (by omega)]
        refine ⟨fun q => absurd q (ge_no hy (by omega)), fun _ => ⟨vp_in_nI (by omega) (by omega), fun q => no (fun k h => q h.1), fun q1 => ⟨vp_in_nI (by omega) (by omega), fun q => no (fun k h => q h.2.1), fun q2 => ⟨vp_in_nI (by omega) (by omega), fun q => no (fun k h => q h.2.2.1), fun q3 => ?_⟩⟩⟩⟩
        unfold MD_ring_117
        have tvx : ∀ z, g v z = true → Tv n g v z = false := fun z hz => by
          cases h : Tv n g v z with
          | false => rfl
          | true =>
            have := (Tv_iff.mp h).2.1
            rw [hz] at this; cases this
        refine ⟨fun q => absurd q (by decide), fun _ => tM_steps hn hG h0 h6 hx hy (by omega) (fun z hz => (Tv_iff.mp hz).1) (tvx x q1) (tvx y q2) (fun k hk hS => comb k hk ?_)⟩
        rcases hS with ⟨h1, h2⟩ | ⟨h1, h2, h3⟩
        · rw [if_pos h1]
          exact Or.inl ⟨rfl, fun j j1 hR => h2 j j1 hR.2.2.2⟩
        · rw [if_neg (by omega)]
          exact Or.inr ⟨k, h1, rfl, ⟨q1, q2, q3, h2⟩, fun j j1 j2 hR => h3 j j1 j2 hR.2.2.2⟩
      · rintro b c X3 ⟨rfl, hxy, r, hr, rfl, hp⟩
        unfold MD_ring_58b
        dsimp only
        rw [h0]
        refine ⟨fun _ => go2 _ _ ⟨nI_1 x, r, hr, rfl, hp.congr (fun k _ => ⟨fun h => by
          rcases h with (h | ⟨x', h1, h2⟩) | ⟨y', h1, h2, h3⟩
          · exact Or.inl h
          · exact Or.inr ⟨x', by omega, h2⟩
          · exact Or.inr ⟨x, by omega, y', h1, h2, h3⟩, fun h => by
          rcases h with h | ⟨x', h1, y', h2, h3, h4⟩
          · exact Or.inl (Or.inl h)
          · by_cases e : x' = x
            · rw [e] at h2 h4; exact Or.inr ⟨y', h2, h3, h4⟩
            · exact Or.inl (Or.inr ⟨x', by omega, y', h2, h3, h4⟩)⟩)⟩, fun q => absurd (nI_le (Nat.le_refl n) (by omega)) q⟩
    · rintro b c X2 ⟨rfl, r, hr, rfl, hp⟩
      unfold MD_ring_43b
      dsimp only
      rw [h0]
      refine ⟨fun _ => go _ _ ⟨nI_1 v, r, hr, rfl, hp.congr (fun k _ => ⟨fun h => by
        rcases h with ⟨v', h1, h2⟩ | ⟨x', h1, h2⟩
        · exact ⟨v', by omega, h2⟩
        · exact ⟨v, by omega, x', h1, h2⟩, fun ⟨v', h1, h2⟩ => by
        by_cases e : v' = v
        · rw [e] at h2; exact Or.inr h2
        · exact Or.inl ⟨v', by omega, h2⟩⟩)⟩, fun q => absurd (nI_le (Nat.le_refl n) (by omega)) q⟩
  · rintro b c X ⟨rfl, r, hr, rfl, hp⟩
    unfold MD_ring_8b
    dsimp only
    rw [h0]
    exact ⟨fun _ => hK r hr hp, fun q => absurd (nI_le (Nat.le_refl n) (by omega)) q⟩
end RGM
/-- ring() -/
theorem law_ring {IX IM : jM} (h : RR IX IM) (a1 a2 a3 : Int32) : lawN_13 RR IX IM a1 a2 a3 := by
  obtain ⟨n, p, a, hd, od, pl, sd, gn, wd, hok, xt, xr, xf, xl, xg, xw, mt, mr, mg, mw, ml, hc⟩ := id h
  have hn := hok.2.1
  have hG := gg_adj hok.2.2.2.2.1
  unfold lawN_13 OO_ring
  simp only [jrs]
  rw [xt.1]
  refine t_shortest hn hG xt.2.2.2.1 (fun r hr hp => ?_)
  unfold MD_ring
  refine tM_beginNet hn mt (fun JM eM e6 => ?_) (okp hok)
  refine tM_ring hn hG (by rw [eM 100 (by omega)]; exact mt.1) e6 (fun r' hr' hp' => ⟨?_, h.scratch eM⟩)
  rw [(hp.congr (fun k hk => rx_rm hG hk)).one hp']
