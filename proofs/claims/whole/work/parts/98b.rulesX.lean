/-! ===== the rules 0 .. 3 and 6, the class's side ===== -/
/-- the first i places are od, with their places -/
def XO (od : Nat → Nat) (i : Nat) (J : jM) : Prop := ∀ j, j < i → J 31 j = nI (od j) ∧ J 32 (od j) = nI j
theorem XO.xr {n : Nat} {od pl : Nat → Nat} {J : jM} (h : XO od n J) (ho : Perm n od pl) (h2 : J 30 2 = nI n) : XR n od pl J := ⟨h2, fun i hi => ⟨(h i hi).1, by
  have := (h (pl i) (ho i hi).2.2.1).2
  rw [(ho i hi).2.2.2] at this
  exact this⟩⟩
theorem t_rset {I : jM} {i u : Nat} (hi : i < 24) (hu : u < 24) {K : jM → Prop} (hK : ∀ J : jM, (∀ x, x ≠ 31 → x ≠ 32 → J x = I x) → (∀ j, J 31 j = if j = i then nI u else I 31 j) → (∀ j, J 32 j = if j = u then nI i else I 32 j) → K J) : RO_set 30 (nI i) (nI u) I K := by
  unfold RO_set
  simp only [jrs]
  rw [clamp (show i < 2 ^ 31 by omega), clamp (show u < 2 ^ 31 by omega)]
  refine ⟨vp_in_nI (by omega) (by omega), fun I1 e1 => ⟨vp_in_nI (by omega) (by omega), fun I2 e2 => hK I2 (fun x h1 h2 => by rw [e2, jwr_ne h2, e1, jwr_ne h1]) (fun j => ?_) (fun j => ?_)⟩⟩
  · rw [e2, jwr_ne (by omega), e1, jwr_at]
    by_cases e : j = i <;> simp [e]
  · rw [e2, jwr_at, e1, jwr_ne (by omega)]
    by_cases e : j = u <;> simp [e]
section RX
variable {n p : Nat} {a : Nat → Nat → Nat} {hd : Nat → Bool} {od pl sd : Nat → Nat} {I : jM}
theorem t_cost {lv : Nat → Bool} {g : Gr} {r u : Nat} (hr : r ≤ 2) (nk : NK 34 35 n lv g I) (hg : GG n lv g) (hu : u < n) (hl : lv u = true) (hn : n ≤ 24) {K : Int32 → Prop} (hK : K (nI (cst r g u))) : RU_cost 33 (nI r) (nI u) I K := by
  unfold RU_cost
  simp only [jrs]
  unfold cst at hK
  refine ⟨fun q => ⟨fun q2 => t_missing okh34 nk hg hu hl hn ?_, fun q2 => ⟨vp_in_nI (by omega) (by omega), ?_⟩⟩, fun q => ?_⟩
  · rw [if_neg (fun e => q (by rw [e]; rfl)), if_neg (fun e => q2 (by rw [e]; rfl))] at hK
    exact hK
  · have e : r = 1 := (nI_eq (by omega) (by omega)).mp q2
    rw [if_neg (by omega), if_pos e] at hK
    rw [clamp (show u < 2 ^ 31 by omega), nk.2.2 u hu hl]
    exact t_bitCount _ _ _ hK
  · have e : r = 0 := (nI_eq (by omega) (by omega)).mp q
    rw [if_pos e] at hK
    exact hK
theorem t_cheapest {l : List Nat} {g : Gr} {r : Nat} (hr : r ≤ 2) (nk : NK 34 35 n (lvL l) g I) (hg : GG n (lvL l) g) (hlen : l.length < n) (hn : n ≤ 24) {K : Int32 → Prop} (hK : K (nI (fm (cnd n hd l) (ltc r g) n n))) : RU_cheapest 33 (nI r) (mk (cnd n hd l)) I K := by
  unfold RU_cheapest RU_cheapest_10
  refine lp_n3 n (fun k x y v => v = nI k ∧ ((fm (cnd n hd l) (ltc r g) n k = n ∧ x = 0 ∧ y = 576) ∨ (fm (cnd n hd l) (ltc r g) n k < k ∧ x = nI (fm (cnd n hd l) (ltc r g) n k) ∧ y = nI (cst r g (fm (cnd n hd l) (ltc r g) n k))))) ?_ ?_ (Nat.zero_le n) ⟨rfl, Or.inl ⟨rfl, rfl, rfl⟩⟩
  · rintro k x y v X hk ⟨rfl, hv⟩ go
    unfold RU_cheapest_10b
    dsimp only
    simp only [jrs]
    rw [nk.1, mk_tst1 _ (by omega)]
    refine ⟨fun q => absurd q (ge_no hk (by omega)), fun _ => ⟨fun q => go _ _ _ ⟨nI_1 k, ?_⟩, fun q => ?_⟩⟩
    · rw [fm_succ, if_neg (by simp [q])]
      rcases hv with ⟨h1, h2, h3⟩ | ⟨h1, h2, h3⟩
      · exact Or.inl ⟨h1, h2, h3⟩
      · exact Or.inr ⟨by omega, h2, h3⟩
    · have hlk : lvL l k = true := by
        unfold lvL
        have := (cnd_iff.mp q).2.1
        simp [this]
      have hc := cst_le r g k
      refine t_cost hr nk hg hk hlk hn ?_
      rcases hv with ⟨h1, h2, h3⟩ | ⟨h1, h2, h3⟩
      · subst h3
        refine ⟨fun q2 => absurd q2 (nI_ge (a := cst r g k) (b := 576) (by omega) (by omega)), fun _ => t_cost hr nk hg hk hlk hn (go _ _ _ ⟨nI_1 k, Or.inr ?_⟩)⟩
        rw [fm_succ, if_pos (by simp [q, h1])]
        exact ⟨by omega, rfl, rfl⟩
      · subst h3
        have hc2 := cst_le r g (fm (cnd n hd l) (ltc r g) n k)
        rw [nI_leI (by omega) (by omega)]
        refine ⟨fun q2 => go _ _ _ ⟨nI_1 k, Or.inr ?_⟩, fun q2 => t_cost hr nk hg hk hlk hn (go _ _ _ ⟨nI_1 k, Or.inr ?_⟩)⟩
        · have h9 : ltc r g k (fm (cnd n hd l) (ltc r g) n k) = false := decide_eq_false (by omega)
          rw [fm_succ, h9, if_neg (by simp [show ¬ fm (cnd n hd l) (ltc r g) n k = n by omega])]
          exact ⟨by omega, h2, rfl⟩
        · have h9 : ltc r g k (fm (cnd n hd l) (ltc r g) n k) = true := decide_eq_true (by omega)
          rw [fm_succ, h9, if_pos (by simp [q])]
          exact ⟨by omega, rfl, rfl⟩
  · rintro x y v X ⟨rfl, hv⟩
    unfold RU_cheapest_10b
    dsimp only
    simp only [jrs]
    rw [nk.1]
    refine ⟨fun _ => ?_, fun q => absurd (nI_le (Nat.le_refl n) (by omega)) q⟩
    have hs := (fm_some (lt := ltc r g) (cnd_some (hd := hd) hlen)).1
    rcases hv with ⟨h1, -, -⟩ | ⟨-, h2, -⟩
    · omega
    · rw [h2]; exact hK
theorem t_greedy {r : Nat} (hr : r ≤ 2) (hn : n ≤ 24) (hs : ∀ u w, u < n → w < n → a u w < p ∧ a u w = a w u) (xt : XT n p a hd sd I) {K : jM → Prop} (hK : ∀ J : jM, (∀ x, x ≠ 31 → x ≠ 32 → x ≠ 34 → x ≠ 35 → J x = I x) → XO (so (pkG n a hd r)) n J → K J) : RU_greedy 33 (nI r) 1 30 I K := by
  have hg := pkG_ok n a hd r
  unfold RU_greedy
  simp only [jrs]
  refine t_take okh34 hn xt (fun J0 j0 j0' nk0 => ?_)
  unfold RU_greedy_11
  refine lp_n2 n (fun i v J => v = nI i ∧ (∀ x, x ≠ 31 → x ≠ 32 → x ≠ 34 → x ≠ 35 → J x = I x) ∧ NK 34 35 n (lvL (sq (pkG n a hd r) i)) (elL (adj n a) (sq (pkG n a hd r) i)) J ∧ XO (so (pkG n a hd r)) i J) ?_ ?_ (Nat.zero_le n) ⟨rfl, fun x _ _ h3 h4 => j0 x h3 h4, by show NK 34 35 n (lvL []) (adj n a) J0; rw [lvL_nil]; exact nk0, fun j h => absurd h (Nat.not_lt_zero j)⟩
  · rintro i v J X hi ⟨rfl, j1, nk, xo⟩ go
    obtain ⟨s1, s2, s3⟩ := sq_ok hg i (by omega)
    obtain ⟨o1, o2⟩ := so_ok hg hi
    obtain ⟨l, hl⟩ : ∃ l, l = sq (pkG n a hd r) i := ⟨_, rfl⟩
    have hso : so (pkG n a hd r) i = fm (cnd n hd l) (ltc r (elL (adj n a) l)) n n := by rw [hl]; rfl
    have hsq : sq (pkG n a hd r) (i + 1) = l ++ [so (pkG n a hd r) i] := by rw [hl]; rfl
    rw [← hl] at nk s1 s2 s3 o2
    have fin : RU_greedy_55 33 (nI r) 1 30 (nI i) 33 (nI r) (mk (cnd n hd l)) J K X := by
      unfold RU_greedy_55
      refine t_cheapest hr nk (gg_elL hs l) (by omega) hn ?_
      rw [← hso]
      refine t_rset (by omega) (by omega) (fun J1 k1 k2 k3 => ?_)
      simp only [jrs]
      have nk1 : NK 34 35 n (lvL l) (elL (adj n a) l) J1 := ⟨by rw [k1 34 (by omega) (by omega)]; exact nk.1, by rw [k1 34 (by omega) (by omega)]; exact nk.2.1, fun u hu h => by rw [k1 35 (by omega) (by omega)]; exact nk.2.2 u hu h⟩
      refine t_remove okh34 nk1 (gg_elL hs l) o1 (by unfold lvL; simpa using o2) hn (fun J2 m1 m2 nk2 => go _ _ ⟨nI_1 i, fun x h1 h2 h3 h4 => by rw [m1 x h3 h4, k1 x h1 h2]; exact j1 x h1 h2 h3 h4, ?_, fun j hj => ?_⟩)
      · rw [hsq, ← lvL_app, elL_app]; exact nk2
      · rw [m1 31 (by omega) (by omega), m1 32 (by omega) (by omega), k2, k3]
        by_cases e : j = i
        · subst e; rw [if_pos rfl, if_pos rfl]; exact ⟨rfl, rfl⟩
        · rw [if_neg e, if_neg (fun e2 => (so_ok hg hi).2 (by rw [← e2]; exact sq_mem _ j i (by omega)))]
          exact xo j (by omega)
    unfold RU_greedy_11b
    dsimp only
    simp only [jrs]
    rw [j1 1 (by omega) (by omega) (by omega) (by omega), xt.1, xt.2.2.2.2.1, nk.2.1, mk_diff]
    refine ⟨fun q => absurd q (ge_no hi (by omega)), fun _ v5 e5 => ⟨fun q => ?_, fun q => ?_⟩⟩
    · have hno : frs n hd l = false := by
        cases hf : frs n hd l with
        | false => rfl
        | true =>
          obtain ⟨w, h1, h2, h3⟩ := frs_iff.mp hf
          rw [e5, mk_zero] at q
          have := q w (by omega)
          simp [h1, h2, h3, lvL] at this
      have e : (fun u => decide (u < n) && lvL l u) = cnd n hd l := by
        funext u
        unfold cnd lvL
        rw [hno]; simp
      rw [e]; exact fin
    · have hyes : frs n hd l = true := by
        cases hf : frs n hd l with
        | true => rfl
        | false =>
          refine absurd ?_ q
          rw [e5, mk_zero]
          intro w hw
          by_cases h1 : w < n
          · by_cases h2 : w ∈ l
            · simp [lvL, h2]
            · cases h3 : hd w with
              | true => simp [h1]
              | false =>
                have := frs_iff.mpr ⟨w, h1, h2, h3⟩
                rw [hf] at this; cases this
          · simp [h1]
      have e : (fun i => (decide (i < n) && lvL l i) && !(decide (i < n) && hd i)) = cnd n hd l := by
        funext u
        unfold cnd lvL
        rw [hyes]
        by_cases h1 : u < n <;> simp [h1]
      rw [e5, e]; exact fin
  · rintro v J X ⟨rfl, j1, nk, xo⟩
    unfold RU_greedy_11b
    dsimp only
    rw [j1 1 (by omega) (by omega) (by omega) (by omega), xt.1]
    exact ⟨fun _ => hK J j1 xo, fun q => absurd (nI_le (Nat.le_refl n) (by omega)) q⟩
end RX
