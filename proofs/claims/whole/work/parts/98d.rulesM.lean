/-! ===== the rules 0 .. 3, the reference's side ===== -/
section RM
variable {n p : Nat} {a : Nat → Nat → Nat} {hd : Nat → Bool} {od pl sd : Nat → Nat} {I : jM}
theorem ms_ml {l : List Nat} {u : Nat} (hs : ∀ u w, u < n → w < n → a u w < p ∧ a u w = a w u) (hg : l.Nodup) : fb_sm (fun w => if elL (adj n a) l u w then ct (fun y => elL (adj n a) l u y && !mlL (adj n a) [] l w y && !decide (y = w)) else 0) 24 / 2 = ms (elL (adj n a) l) u := by
  unfold ms
  congr 1
  apply fb_sm_cong
  intro w _
  by_cases hw : elL (adj n a) l u w = true
  · rw [if_pos hw, if_pos hw]
    apply ct_cong
    intro y _
    by_cases hy : elL (adj n a) l u y = true
    · have h1 := near_eq hs hg (live_of hs hw).2 y
      have h2 := (live_of hs hy).2
      simp [h2] at h1
      rw [h1]
    · simp [hy]
  · rw [if_neg hw, if_neg hw]
theorem tM_byFewest {b : Bool} (hn : n ≤ 24) (hs : ∀ u w, u < n → w < n → a u w < p ∧ a u w = a w u) (hlt : ∀ u w, u < n → w < n → a u w < 2 ^ 31) (mt : MT n p a hd sd I) {K : jM → Prop} (hK : ∀ J : jM, (∀ x, x ≠ 103 → x ≠ 106 → J x = I x) → (∀ i, i < n → J 103 i = nI (so (pkG n a hd (if b then 2 else 1)) i)) → K J) : MD_byFewest 100 (if b then 1 else 0) I K := by
  obtain ⟨r, hr⟩ : ∃ r, r = if b then 2 else 1 := ⟨_, rfl⟩
  rw [← hr] at hK
  have hg := pkG_ok n a hd r
  unfold MD_byFewest
  refine tM_beginNet hn mt (fun J0 j0 j06 v2 e2 => ?_) hlt
  rw [j0 100 (by omega), mt.1, mk_all n hn] at e2
  subst e2
  unfold MD_byFewest_15
  refine lp_n3 n (fun i lf v J => v = nI i ∧ lf = mk (fun u => decide (u < n) && lvL (sq (pkG n a hd r) i) u) ∧ (∀ x, x ≠ 103 → x ≠ 106 → J x = I x) ∧ (∀ w, w < n → J 106 w = mk (mlL (adj n a) [] (sq (pkG n a hd r) i) w)) ∧ ∀ j, j < i → J 103 j = nI (so (pkG n a hd r) j)) ?_ ?_ (Nat.zero_le n) ⟨rfl, mk_ext (fun u _ => by simp [sq, lvL]), fun x _ h => j0 x h, fun w hw => j06 w hw, fun j h => absurd h (Nat.not_lt_zero j)⟩
  · rintro i lf v J X hi ⟨rfl, rfl, j1, j6, j3⟩ go
    obtain ⟨s1, s2, s3⟩ := sq_ok hg i (by omega)
    obtain ⟨o1, o2⟩ := so_ok hg hi
    obtain ⟨l, hl⟩ : ∃ l, l = sq (pkG n a hd r) i := ⟨_, rfl⟩
    obtain ⟨g, hge⟩ : ∃ g : Gr, g = elL (adj n a) l := ⟨_, rfl⟩
    have hso : so (pkG n a hd r) i = fm (cnd n hd l) (ltc r g) n n := by rw [hge, hl]; rfl
    have hsq : sq (pkG n a hd r) (i + 1) = l ++ [so (pkG n a hd r) i] := by rw [hl]; rfl
    rw [← hl] at j6 s1 s2 s3 o2 ⊢
    have hG := gg_elL hs l
    have m0 : J 100 0 = nI n := by rw [j1 100 (by omega) (by omega)]; exact mt.1
    have m2 : ∀ u, u < n → J 102 u = if hd u then 1 else 0 := fun u hu => by rw [j1 102 (by omega) (by omega)]; exact mt.2.2.2.1 u hu
    unfold MD_byFewest_15b
    dsimp only
    rw [m0]
    refine ⟨fun q => absurd q (ge_no hi (by omega)), fun _ => ?_⟩
    unfold MD_byFewest_29
    refine lp_n2 n (fun k f v => v = nI k ∧ ((f = 0 ∧ ∀ w, w < k → ¬ (w ∉ l ∧ hd w = false)) ∨ (f = 1 ∧ ∃ w, w < n ∧ w ∉ l ∧ hd w = false))) ?_ ?_ (Nat.zero_le n) ⟨rfl, Or.inl ⟨rfl, fun w h => absurd h (Nat.not_lt_zero w)⟩⟩
    · rintro k f v X2 hk ⟨rfl, hf⟩ go2
      unfold MD_byFewest_29b
      dsimp only
      simp only [jrs]
      rw [m0, clamp (show k < 2 ^ 31 by omega), m2 k hk, mk_tst1 _ (by omega)]
      refine ⟨fun q => absurd q (ge_no hk (by omega)), fun _ => ?_⟩
      rcases hf with ⟨rfl, hz⟩ | ⟨rfl, hex⟩
      · refine ⟨fun q => absurd rfl q, fun _ => ⟨fun q => go2 _ _ ⟨nI_1 k, Or.inl ⟨rfl, fun w hw => ?_⟩⟩, fun q => ⟨vp_in_nI (by omega) (by omega), fun q2 => go2 _ _ ⟨nI_1 k, Or.inl ⟨rfl, fun w hw => ?_⟩⟩, fun q2 => go2 _ _ ⟨nI_1 k, Or.inr ⟨rfl, k, hk, ?_, ?_⟩⟩⟩⟩⟩
        · by_cases e : w = k
          · subst e
            intro hh
            apply q
            simp [hk, lvL, hh.1]
          · exact hz w (by omega)
        · by_cases e : w = k
          · subst e
            intro hh
            rw [hh.2] at q2; exact q2 rfl
          · exact hz w (by omega)
        · simpa [hk, lvL] using q
        · cases hh : hd k with
          | false => rfl
          | true => rw [hh] at q2; exact absurd q2 (by decide)
      · exact ⟨fun _ => go2 _ _ ⟨nI_1 k, Or.inr ⟨rfl, hex⟩⟩, fun q => absurd q (by decide)⟩
    · rintro f v X2 ⟨rfl, hf⟩
      have hfr : (f = 0 ∧ frs n hd l = false) ∨ (f = 1 ∧ frs n hd l = true) := by
        rcases hf with ⟨h1, h2⟩ | ⟨h1, h2⟩
        · left
          refine ⟨h1, ?_⟩
          cases hh : frs n hd l with
          | false => rfl
          | true =>
            obtain ⟨w, w1, w2, w3⟩ := frs_iff.mp hh
            exact absurd ⟨w2, w3⟩ (h2 w w1)
        · exact Or.inr ⟨h1, frs_iff.mpr h2⟩
      unfold MD_byFewest_29b
      dsimp only
      rw [m0]
      refine ⟨fun _ => ?_, fun q => absurd (nI_le (Nat.le_refl n) (by omega)) q⟩
      unfold MD_byFewest_86
      refine lp_n3 n (fun k x y v => v = nI k ∧ ((fm (cnd n hd l) (ltc r g) n k = n ∧ x = -9) ∨ (fm (cnd n hd l) (ltc r g) n k < k ∧ x = nI (fm (cnd n hd l) (ltc r g) n k) ∧ y = nI (cst r g (fm (cnd n hd l) (ltc r g) n k))))) ?_ ?_ (Nat.zero_le n) ⟨rfl, Or.inl ⟨rfl, rfl⟩⟩
      · rintro k x y v X3 hk ⟨rfl, hv⟩ go3
        have skip : cnd n hd l k = false → X3 (x, y, nI k + 1) := fun hc => go3 _ _ _ ⟨nI_1 k, by
          rw [fm_succ, if_neg (by simp [hc])]
          rcases hv with ⟨h1, h2⟩ | ⟨h1, h2, h3⟩
          · exact Or.inl ⟨h1, h2⟩
          · exact Or.inr ⟨by omega, h2, h3⟩⟩
        have take : cnd n hd l k = true → MD_byFewest_122 100 (if b then 1 else 0) (mk (fun u => decide (u < n) && lvL l u)) (nI i) f x y (nI k) J K X X3 := fun hc => by
          have hkl := (cnd_iff.mp hc).2.1
          have hc1 := cst_le r g k
          have aft : MD_byFewest_161 100 (if b then 1 else 0) (mk (fun u => decide (u < n) && lvL l u)) (nI i) f x y (nI k) (nI (cst r g k)) J K X X3 := by
            unfold MD_byFewest_161
            rcases hv with ⟨h1, h2⟩ | ⟨h1, h2, h3⟩
            · subst h2
              refine ⟨fun _ => go3 _ _ _ ⟨nI_1 k, Or.inr ?_⟩, fun q => absurd rfl q⟩
              rw [fm_succ, if_pos (by simp [hc, h1])]
              exact ⟨by omega, rfl, rfl⟩
            · subst h2 h3
              have hc2 := cst_le r g (fm (cnd n hd l) (ltc r g) n k)
              rw [nI_leI (by omega) (by omega)]
              refine ⟨fun q => absurd q (nI_ne9 (by omega)), fun _ => ⟨fun q2 => go3 _ _ _ ⟨nI_1 k, Or.inr ?_⟩, fun q2 => go3 _ _ _ ⟨nI_1 k, Or.inr ?_⟩⟩⟩
              · have h9 : ltc r g k (fm (cnd n hd l) (ltc r g) n k) = false := decide_eq_false (by omega)
                rw [fm_succ, h9, if_neg (by simp [show ¬ fm (cnd n hd l) (ltc r g) n k = n by omega])]
                exact ⟨by omega, rfl, rfl⟩
              · have h9 : ltc r g k (fm (cnd n hd l) (ltc r g) n k) = true := decide_eq_true (by omega)
                rw [fm_succ, h9, if_pos (by simp [hc])]
                exact ⟨by omega, rfl, rfl⟩
          unfold MD_byFewest_122
          simp only [jrs]
          refine ⟨vp_in_nI (by omega) (by omega), fun v8 e8 => ?_⟩
          have e9 : v8 = mk (elL (adj n a) l k) := by
            rw [e8, clamp (show k < 2 ^ 31 by omega), j6 k hk, mk_and, mk_one (by omega), mk_diff]
            apply mk_ext
            intro w _
            rw [← near_eq hs s1 hkl w]
            by_cases h1 : w = k
            · subst h1
              have : elL (adj n a) l w w = false := by
                cases hh : elL (adj n a) l w w with
                | true => exact absurd rfl (hG w w hh).2.2.2.2.1
                | false => rfl
              rw [near_eq hs s1 hkl w, this]; simp
            · by_cases h2 : w < n
              · simp [h1, h2, lvL]
              · have : elL (adj n a) l k w = false := by
                  cases hh : elL (adj n a) l k w with
                  | true => exact absurd (hG k w hh).2.1 h2
                  | false => rfl
                rw [near_eq hs s1 hkl w, this]; simp [h2]
          rw [e9]
          cases b with
          | false =>
            refine ⟨fun _ => t_ones _ _ _ ?_, fun q => absurd rfl q⟩
            have : cst r g k = ct (elL (adj n a) l k) := by rw [hr, hge]; rfl
            rw [← this]; exact aft
          | true =>
            refine ⟨fun q => absurd q (by decide), fun _ => ?_⟩
            refine tM_fillsOf (c := 106) (rw1 := mlL (adj n a) [] l) (by decide +kernel) (fun w hw hnw => j6 w (live_of hs hnw).1) ?_
            rw [ms_ml hs s1]
            have : cst r g k = ms (elL (adj n a) l) k := by rw [hr, hge]; rfl
            rw [← this]; exact aft
        unfold MD_byFewest_86b
        dsimp only
        simp only [jrs]
        rw [m0, mk_tst0 _ (by omega), clamp (show k < 2 ^ 31 by omega), m2 k hk]
        refine ⟨fun q => absurd q (ge_no hk (by omega)), fun _ => ⟨fun q => skip ?_, fun q => ?_⟩⟩
        · cases hc : cnd n hd l k with
          | false => rfl
          | true =>
            have := (cnd_iff.mp hc).2.1
            simp [hk, lvL, this] at q
        · have hkl : k ∉ l := by
            intro hm
            apply q
            simp [lvL, hm]
          rcases hfr with ⟨rfl, hfr⟩ | ⟨rfl, hfr⟩
          · exact ⟨fun _ => take (cnd_iff.mpr ⟨hk, hkl, fun e => by rw [hfr] at e; cases e⟩), fun q2 => absurd rfl q2⟩
          · refine ⟨fun q2 => absurd q2 (by decide), fun _ => ⟨vp_in_nI (by omega) (by omega), fun q2 => take (cnd_iff.mpr ⟨hk, hkl, fun _ => ?_⟩), fun q2 => skip ?_⟩⟩
            · cases hh : hd k with
              | false => rfl
              | true => rw [hh] at q2; exact absurd q2 (by decide)
            · cases hc : cnd n hd l k with
              | false => rfl
              | true =>
                have := (cnd_iff.mp hc).2.2 hfr
                rw [this] at q2; exact absurd rfl q2
      · rintro x y v X3 ⟨rfl, hv⟩
        have hss := (fm_some (lt := ltc r g) (cnd_some (hd := hd) (show l.length < n by omega))).1
        have hx : x = nI (so (pkG n a hd r) i) := by
          rcases hv with ⟨h1, -⟩ | ⟨-, h2, -⟩
          · omega
          · rw [h2, hso]
        subst hx
        unfold MD_byFewest_86b
        dsimp only
        simp only [jrs]
        rw [m0, clamp (show i < 2 ^ 31 by omega), clamp (show so (pkG n a hd r) i < 2 ^ 31 by omega)]
        refine ⟨fun _ => ⟨vp_in_nI (by omega) (by omega), fun J1 f1 v2 e2 => ⟨vp_in_nI (by omega) (by omega), ?_⟩⟩, fun q => absurd (nI_le (Nat.le_refl n) (by omega)) q⟩
        have e3 : v2 = mk (fun u => decide (u < n) && lvL (l ++ [so (pkG n a hd r) i]) u) := by
          rw [e2, mk_one (by omega), mk_diff]
          apply mk_ext
          intro w _
          unfold lvL
          by_cases h1 : w ∈ l <;> by_cases h2 : w = so (pkG n a hd r) i <;> simp [h1, h2]
        have e4 : J1 106 (so (pkG n a hd r) i) &&& v2 = mk (elL (adj n a) l (so (pkG n a hd r) i)) := by
          rw [f1, jwr_ne (by omega), j6 _ o1, e3, mk_and]
          apply mk_ext
          intro w _
          rw [← near_eq hs s1 o2 w]
          by_cases h2 : w = so (pkG n a hd r) i
          · have : elL (adj n a) l (so (pkG n a hd r) i) w = false := by
              cases hh : elL (adj n a) l (so (pkG n a hd r) i) w with
              | true => exact absurd h2.symm (hG _ w hh).2.2.2.2.1
              | false => rfl
            rw [near_eq hs s1 o2 w, this]; simp [lvL, h2]
          · by_cases h3 : w < n
            · by_cases h1 : w ∈ l <;> simp [lvL, h1, h2, h3]
            · have : elL (adj n a) l (so (pkG n a hd r) i) w = false := by
                cases hh : elL (adj n a) l (so (pkG n a hd r) i) w with
                | true => exact absurd (hG _ w hh).2.1 h3
                | false => rfl
              rw [near_eq hs s1 o2 w, this]; simp [h3]
        rw [e4]
        refine tM_joinAll (n := n) (c := 106) (rw1 := mlL (adj n a) [] l) (by decide +kernel) (fun w hw => by rw [f1, jwr_ne (by omega)]; exact j6 w hw) hn (fun w hw => (live_of hs hw).1) (fun J2 k1 k2 => go _ _ _ ⟨nI_1 i, by rw [hsq]; exact e3, fun x h1 h2 => by rw [k1 x h2, f1, jwr_ne h1]; exact j1 x h1 h2, fun w hw => ?_, fun j hj => ?_⟩)
        · rw [k2 w hw, hsq, mlL_app]
          have hf2 : (fun w => mlL (adj n a) [] l (so (pkG n a hd r) i) w && !decide (w = so (pkG n a hd r) i) && !decide (w ∈ [] ++ l)) = elL (adj n a) l (so (pkG n a hd r) i) := by
            funext x
            rw [← near_eq hs s1 o2 x]
            by_cases hx : x = so (pkG n a hd r) i
            · have h0 : (mlL (adj n a) [] l (so (pkG n a hd r) i) x && !decide (x ∈ l)) = false := by
                rw [near_eq hs s1 o2 x]
                cases hh : elL (adj n a) l (so (pkG n a hd r) i) x with
                | true => exact absurd hx.symm (hG _ x hh).2.2.2.2.1
                | false => rfl
              rw [h0]; simp [hx]
            · simp [hx]
          rw [hf2]
        · rw [k1 103 (by omega), f1, jwr_at]
          by_cases e : j = i
          · subst e; rw [if_pos ⟨rfl, rfl⟩]
          · rw [if_neg (by omega)]; exact j3 j (by omega)
  · rintro lf v J X ⟨rfl, rfl, j1, j6, j3⟩
    unfold MD_byFewest_15b
    dsimp only
    rw [j1 100 (by omega) (by omega), mt.1]
    exact ⟨fun _ => hK J j1 j3, fun q => absurd (nI_le (Nat.le_refl n) (by omega)) q⟩
end RM
