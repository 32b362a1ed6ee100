/-! ===== the FULL NET, the class's side ===== -/
theorem flA_nil {g : Gr} {u x k : Nat} (h : ∀ y, y < k → flq g u x y = false) : flA g u x k = [] := by
  apply List.eq_nil_of_length_eq_zero
  rw [flA_len]
  exact fb_ct_zero.mpr h
theorem flA_len_le {g : Gr} {n u x k : Nat} (hk : k ≤ n) : (flA g u x k).length ≤ (flA g u x n).length := by
  rw [flA_len, flA_len]; exact fb_ct_mono _ hk
theorem flP_len_le {g : Gr} {n u k : Nat} (hk : k ≤ n) : (flP g n u k).length ≤ (fl g n u).length := by
  rw [fl_eq, flP_len, flP_len]
  have := fb_sm_mono (fun x => fb_ct (flq g u x) n) k (n - k)
  rw [show k + (n - k) = n by omega] at this
  exact this
theorem t_listFills {I : jM} {n u : Nat} {lv : Nat → Bool} {g : Gr} (nk : NK 56 57 n lv g I) (hg : GG n lv g) (hn : n ≤ 24) {pre : List Nat} (hd : Held I 58 pre) (hl : I 55 7 = nI pre.length) (hb : (pre ++ fl g n u).length ≤ 287) {K : jM → Prop} (hK : ∀ J : jM, (∀ x, x ≠ 55 → x ≠ 58 → J x = I x) → (∀ k, k ≠ 7 → J 55 k = I 55 k) → Held J 58 (pre ++ fl g n u) → J 55 7 = nI (pre ++ fl g n u).length → K J) : FN_listFills 55 (mk (g u)) I K := by
  unfold FN_listFills FN_listFills_2
  rw [List.length_append] at hb
  refine lp_n2 n (fun k v J => v = nI k ∧ (∀ x, x ≠ 55 → x ≠ 58 → J x = I x) ∧ (∀ k, k ≠ 7 → J 55 k = I 55 k) ∧ Held J 58 (pre ++ flP g n u k) ∧ J 55 7 = nI (pre ++ flP g n u k).length) ?_ ?_ (Nat.zero_le _) ⟨rfl, fun _ _ _ => rfl, fun _ _ => rfl, by simpa [flP] using hd, by simpa [flP] using hl⟩
  · rintro k v J X hk ⟨rfl, j1, j2, j3, j4⟩ go
    unfold FN_listFills_2b
    dsimp only
    simp only [jrs]
    rw [j1 56 (by omega) (by omega), nk.1, j1 57 (by omega) (by omega), mk_tst0 _ (by omega)]
    refine ⟨fun q => absurd q (ge_no hk (by omega)), fun _ => ⟨fun q => ⟨vp_in_nI (by omega) (by omega), fun v3 e3 v4 e4 => ?_⟩, fun q => go _ _ ⟨nI_1 k, j1, j2, ?_⟩⟩⟩
    · have hgk : g u k = true := by
        cases hh : g u k with
        | true => rfl
        | false => exact absurd hh q
      rw [clamp (by omega), nk.2.2 k hk (hg u k hgk).2.2.2.1, mk_diff] at e3
      have e4' : v4 = nI (k + 1) := by rw [e4]; exact nI_1 k
      subst e3 e4'
      unfold FN_listFills_43
      refine lp_n2 n (fun m v J2 => v = nI m ∧ (∀ x, x ≠ 55 → x ≠ 58 → J2 x = I x) ∧ (∀ k, k ≠ 7 → J2 55 k = I 55 k) ∧ Held J2 58 (pre ++ flP g n u k ++ flA g u k m) ∧ J2 55 7 = nI (pre ++ flP g n u k ++ flA g u k m).length ∧ k < m) ?_ ?_ (show k + 1 ≤ n by omega) ⟨rfl, j1, j2, ?_⟩
      · rintro m v J2 X2 hm ⟨rfl, m1, m2, m3, m4, m5⟩ go2
        unfold FN_listFills_43b
        dsimp only
        simp only [jrs]
        rw [m1 56 (by omega) (by omega), nk.1, mk_tst1 _ (by omega)]
        have hlq : flq g u k m = (g u m && !g k m) := by unfold flq; rw [decide_eq_true m5, hgk]; simp
        refine ⟨fun q => absurd q (ge_no hm (by omega)), fun _ => ⟨fun q2 => go2 _ _ ⟨nI_1 m, m1, m2, ?_⟩, fun q2 => ?_⟩⟩
        · rw [flA_succ, hlq, if_neg q2, List.append_nil]
          exact ⟨m3, m4, by omega⟩
        · have hlen : (pre ++ flP g n u k ++ flA g u k m).length + 1 ≤ 287 := by
            have h1 : (flA g u k (m + 1)).length ≤ (flA g u k n).length := flA_len_le (by omega)
            have h2 : (flP g n u (k + 1)).length ≤ (fl g n u).length := flP_len_le (by omega)
            rw [flP_succ, List.length_append] at h2
            rw [flA_succ, hlq, if_pos q2, List.length_append, List.length_singleton] at h1
            rw [List.length_append, List.length_append]
            omega
          refine ⟨fun q3 => absurd q3 (by rw [m4]; exact nI_ge (a := (pre ++ flP g n u k ++ flA g u k m).length) (b := 288) (by omega) (by omega)), fun _ => ⟨by rw [m4]; exact vp_in_nI (by omega) (by omega), fun J3 f3 J4 f4 => ?_⟩⟩
          rw [m4, clamp (by omega), show (32 : Int32) = nI 32 from rfl, pk_mul, nI_add] at f3
          have e7 : J3 55 7 = nI (pre ++ flP g n u k ++ flA g u k m).length := by rw [f3, jwr_ne (by omega)]; exact m4
          rw [e7, show (1 : Int32) = nI 1 from rfl, nI_add, f3] at f4
          obtain ⟨p1, p2⟩ := held_push (h := 55) (f := 7) (v := 32 * k + m) m3 (by omega)
          refine go2 _ _ ⟨nI_1 m, fun x h1 h2 => ?_, fun f hf => ?_, ?_⟩
          · rw [f4, jwr_ne h1, jwr_ne h2]; exact m1 x h1 h2
          · rw [f4, jwr_at, if_neg (by omega), jwr_ne (by omega)]; exact m2 f hf
          · rw [flA_succ, hlq, if_pos q2, ← List.append_assoc, f4]
            exact ⟨p1, p2, by omega⟩
      · rintro v J2 X2 ⟨rfl, m1, m2, m3, m4, m5⟩
        unfold FN_listFills_43b
        dsimp only
        simp only [jrs]
        rw [m1 56 (by omega) (by omega), nk.1]
        refine ⟨fun _ => go _ _ ⟨nI_1 k, m1, m2, ?_⟩, fun q => absurd (nI_le (Nat.le_refl n) (by omega)) q⟩
        rw [flP_succ, ← List.append_assoc]
        exact ⟨m3, m4⟩
      · rw [flA_nil (k := k + 1) (fun y hy => by unfold flq; rw [decide_eq_false (by omega)]; rfl), List.append_nil]
        exact ⟨j3, j4, by omega⟩
    · rw [flP_succ, flA_nil (fun y _ => by unfold flq; rw [q]; simp), List.append_nil]
      exact ⟨j3, j4⟩
  · rintro v J X ⟨rfl, j1, j2, j3, j4⟩
    unfold FN_listFills_2b
    dsimp only
    simp only [jrs]
    rw [j1 56 (by omega) (by omega), nk.1]
    exact ⟨fun _ => hK J j1 j2 j3 j4, fun q => absurd (nI_le (Nat.le_refl n) (by omega)) q⟩
theorem t_max {x y : Nat} (hx : x < 2 ^ 31) (hy : y < 2 ^ 31) {I : jM} {K : Int32 → Prop} (h : K (nI (max x y))) : JM_max (nI x) (nI y) I K := by
  unfold JM_max
  refine ⟨fun q => ?_, fun q => ?_⟩
  · have : x < y := (nI_ltI hx hy).mp q
    rw [show max x y = y by omega] at h; exact h
  · have : ¬ x < y := fun e => q ((nI_ltI hx hy).mpr e)
    rw [show max x y = x by omega] at h; exact h
theorem wide_le (n : Nat) (a : Nat → Nat → Nat) (od : Nat → Nat) : ∀ i, wide n a od i ≤ 24
  | 0 => Nat.zero_le _
  | i + 1 => by
    have h1 := wide_le n a od i
    have h2 := ct_le (Gi n a od i (od i))
    unfold wide
    omega
/-- the first loop of reckon -/
def XF1 (n : Nat) (a : Nat → Nat → Nat) (od : Nat → Nat) (i : Nat) (J : jM) : Prop := Held J 58 (FLP n a od i) ∧ J 55 7 = nI (FLP n a od i).length ∧ J 55 9 = nI (wide n a od i) ∧ ∀ j, j < i → J 59 (od j) = mk (Gi n a od j (od j))
theorem t_reckon1 {n p : Nat} {a : Nat → Nat → Nat} {hd : Nat → Bool} {od pl sd : Nat → Nat} {I : jM} (hn : n ≤ 24) (hs : ∀ u w, u < n → w < n → a u w < p ∧ a u w = a w u) (ho : Perm n od pl) (xt : XT n p a hd sd I) (xr : XR n od pl I) {K : jM → Prop} (hK : ∀ J : jM, (∀ x, x < 55 ∨ 59 < x → J x = I x) → XF1 n a od n J → FN_makeTree 55 30 J (fun I_2 => FN_makeGroups 55 (I_2 30 2) I_2 (fun I_4 => K I_4))) : FN_reckon 55 1 30 I K := by
  unfold FN_reckon
  simp only [jrs]
  refine t_take okh56 hn xt (fun J0 f1 f2 nk0 I3 e3 I4 e4 => ?_)
  unfold FN_reckon_20
  have g0 : ∀ x, x ≠ 55 → I4 x = J0 x := fun x h => by rw [e4, jwr_ne h, e3, jwr_ne h]
  refine lp_n2 n (fun i v J => v = nI i ∧ (∀ x, x < 55 ∨ 59 < x → J x = I x) ∧ NK 56 57 n (lvL (fo od i)) (Gi n a od i) J ∧ XF1 n a od i J) ?_ ?_ (Nat.zero_le _) ⟨rfl, fun x hx => ?_, ?_, ?_⟩
  · rintro i v J X hi ⟨rfl, j1, nk, j3, j4, j5, j6⟩ go
    obtain ⟨o1, o2, o3, o4⟩ := ho i hi
    have hG := Gi_gg (od := od) hs i
    have hlv : lvL (fo od i) (od i) = true := lvL_iff.mpr (ho.notin hi)
    unfold FN_reckon_20b
    dsimp only
    simp only [jrs]
    rw [j1 30 (by omega), xr.1, j1 31 (by omega), clamp (by omega), (xr.2 i hi).1]
    refine ⟨fun q => absurd q (ge_no hi (by omega)), fun _ => ⟨vp_in_nI (by omega) (by omega), fun v4 e4 => ?_⟩⟩
    subst e4
    rw [clamp (by omega)]
    have hvp : vp_in (nI (od i)) 24 := vp_in_nI (by omega) (by omega)
    refine ⟨hvp, hvp, fun I6 f6 => ?_⟩
    rw [nk.2.2 _ o1 hlv] at f6
    have a1 : I6 59 (od i) = mk (Gi n a od i (od i)) := by rw [f6, jwr_at, if_pos ⟨rfl, rfl⟩]
    have a2 : ∀ x, x ≠ 59 → I6 x = J x := fun x hx => by rw [f6, jwr_ne hx]
    rw [a1, a2 55 (by omega), j5]
    refine ⟨hvp, t_bitCount _ _ _ (t_max (by have := wide_le n a od i; omega) (by have := ct_le (Gi n a od i (od i)); omega) (fun I9 f9 => ⟨hvp, ?_⟩))⟩
    have b2 : ∀ x, x ≠ 55 → x ≠ 59 → I9 x = J x := fun x h1 h2 => by rw [f9, jwr_ne h1, a2 x h2]
    have b1 : I9 59 = I6 59 := by rw [f9, jwr_ne (by omega)]
    have b3 : ∀ k, k ≠ 9 → I9 55 k = J 55 k := fun k hk => by rw [f9, jwr_at, if_neg (by omega), a2 55 (by omega)]
    have nk9 : NK 56 57 n (lvL (fo od i)) (Gi n a od i) I9 := ⟨by rw [b2 56 (by omega) (by omega)]; exact nk.1, by rw [b2 56 (by omega) (by omega)]; exact nk.2.1, fun u hu hl => by rw [b2 57 (by omega) (by omega)]; exact nk.2.2 u hu hl⟩
    rw [b1, a1]
    have hlen := FLP_le hn hs ho (show i + 1 ≤ n by omega)
    rw [FLP_succ] at hlen
    refine t_listFills nk9 hG hn (j3.fr (b2 58 (by omega) (by omega))) (by rw [b3 7 (by omega)]; exact j4) (by omega) (fun I11 c1 c2 c3 c4 => ?_)
    have nk11 : NK 56 57 n (lvL (fo od i)) (Gi n a od i) I11 := ⟨by rw [c1 56 (by omega) (by omega)]; exact nk9.1, by rw [c1 56 (by omega) (by omega)]; exact nk9.2.1, fun u hu hl => by rw [c1 57 (by omega) (by omega)]; exact nk9.2.2 u hu hl⟩
    refine t_remove okh56 nk11 hG o1 hlv hn (fun J2 d1 d2 nk2 => go _ _ ⟨nI_1 i, fun x hx => ?_, ?_, ?_, ?_, ?_, fun j hj => ?_⟩)
    · rw [d1 x (by omega) (by omega), c1 x (by omega) (by omega), b2 x (by omega) (by omega)]; exact j1 x hx
    · rw [fo_succ, ← lvL_app, Gi_succ]; exact nk2
    · rw [FLP_succ]; exact c3.fr (d1 58 (by omega) (by omega))
    · rw [FLP_succ, d1 55 (by omega) (by omega)]; exact c4
    · rw [d1 55 (by omega) (by omega), c2 9 (by omega), f9, jwr_at, if_pos ⟨rfl, rfl⟩]; rfl
    · rw [d1 59 (by omega) (by omega), c1 59 (by omega) (by omega), b1]
      by_cases e : j = i
      · subst e; exact a1
      · rw [f6, jwr_at, if_neg (fun h => e (ho.inj (by omega) hi h.2))]
        exact j6 j (by omega)
  · rintro v J X ⟨rfl, j1, nk, xf1⟩
    unfold FN_reckon_20b
    dsimp only
    rw [j1 30 (by omega), xr.1]
    exact ⟨fun _ => hK J j1 xf1, fun q => absurd (nI_le (Nat.le_refl n) (by omega)) q⟩
  · rw [g0 x (by omega)]; exact f1 x (by omega) (by omega)
  · refine ⟨by rw [g0 56 (by omega)]; exact nk0.1, ?_, fun u hu hl => by rw [g0 57 (by omega)]; exact nk0.2.2 u hu rfl⟩
    rw [g0 56 (by omega), nk0.2.1]
    exact mk_ext (fun i _ => by simp [lvL, fo])
  · refine ⟨fun k hk => absurd hk (Nat.not_lt_zero k), ?_, ?_, fun j hj => absurd hj (Nat.not_lt_zero j)⟩
    · rw [e4, jwr_at, if_neg (by omega), e3, jwr_at, if_pos ⟨rfl, rfl⟩]; rfl
    · rw [e4, jwr_at, if_pos ⟨rfl, rfl⟩]; rfl
