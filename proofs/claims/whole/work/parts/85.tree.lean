/-! ===== the FULL NET's tree, the class's side ===== -/
theorem nI_dn {n k : Nat} (h : k < n) : nI (n - k) - 1 = nI (n - (k + 1)) := by
  rw [show n - k = (n - (k + 1)) + 1 by omega, nI_pred]
theorem nI_m1 (x : Int32) : x + (-1) = x - 1 := (Int32.sub_eq_add_neg x 1).symm
theorem fa_first_spec {p : Nat → Bool} {n k : Nat} (hk : k < n) (hp : p k = true) (hno : ∀ j, j < k → p j = false) : fa_first p n = k := by
  rcases Nat.lt_trichotomy (fa_first p n) k with h | h | h
  · have := fa_first_yes p n (by omega)
    rw [hno _ h] at this; cases this
  · exact h
  · have := fa_first_no p n k h
    rw [hp] at this; cases this
theorem fa_first_none {p : Nat → Bool} {n : Nat} (hno : ∀ j, j < n → p j = false) : fa_first p n = n := by
  have h := fa_first_le p n
  rcases Nat.lt_or_ge (fa_first p n) n with h2 | h2
  · have := fa_first_yes p n h2
    rw [hno _ h2] at this; cases this
  · omega
theorem par_gt {n p : Nat} {a : Nat → Nat → Nat} {od pl : Nat → Nat} (hs : ∀ u w, u < n → w < n → a u w < p ∧ a u w = a w u) (ho : Perm n od pl) {i j : Nat} (hi : i < n) (hj : j < n) (h : Gi n a od i (od i) (od j) = true) : i < j := by
  have hG := Gi_gg (od := od) hs i
  obtain ⟨-, -, -, q4, q5, -⟩ := hG _ _ h
  have h1 := lvL_iff.mp q4
  rw [ho.mem (by omega) (ho j hj).1, (ho j hj).2.1] at h1
  rcases Nat.lt_or_ge i j with h2 | h2
  · exact h2
  · exact absurd (show od i = od j by rw [show i = j by omega]) q5
theorem t_firstOf {I : jM} {n : Nat} {od pl : Nat → Nat} (hn : n ≤ 24) (ho : Perm n od pl) (xr : XR n od pl I) (f : Nat → Bool) {K : Int32 → Prop} (h1 : ∀ j, j < n → fa_first (fun j => f (od j)) n = j → K (nI (od j))) (h2 : ¬ fa_first (fun j => f (od j)) n < n → K (-9)) : FN_firstOf (mk f) 30 I K := by
  unfold FN_firstOf FN_firstOf_2
  refine lp_n n (fun k (s : Int32) => s = nI k ∧ ∀ j, j < k → f (od j) = false) ?_ ?_ (Nat.zero_le _) ⟨rfl, fun j hj => absurd hj (Nat.not_lt_zero j)⟩
  · rintro k s X hk ⟨rfl, hno⟩ go
    unfold FN_firstOf_2b
    simp only [jrs]
    rw [xr.1, clamp (by omega), (xr.2 k hk).1, mk_tst1 _ (by have := (ho k hk).1; omega)]
    have hvp : vp_in (nI k) 24 := vp_in_nI (by omega) (by omega)
    refine ⟨fun q => absurd q (ge_no hk (by omega)), fun _ => ⟨hvp, fun q => go _ ⟨nI_1 k, fun j hj => ?_⟩, fun q => ⟨hvp, ?_⟩⟩⟩
    · by_cases e : j = k
      · subst e; simpa using q
      · exact hno j (by omega)
    · have e := fa_first_spec (p := fun j => f (od j)) hk q hno
      exact h1 k hk e
  · rintro s X ⟨rfl, hno⟩
    unfold FN_firstOf_2b
    rw [xr.1]
    have e := fa_first_none (p := fun j => f (od j)) hno
    exact ⟨fun _ => h2 (by omega), fun q => absurd (nI_le (Nat.le_refl n) (by omega)) q⟩
/-- the tree as far as the places from m on -/
def XF2 (n : Nat) (a : Nat → Nat → Nat) (od pl : Nat → Nat) (m : Nat) (I : jM) : Prop :=
  (∀ i, m ≤ i → i < n → (par n a od i < n → I 60 (od i) = nI (od (par n a od i)) ∧ I 61 (od i) = I 61 (od (par n a od i)) + 1) ∧ (¬ par n a od i < n → I 60 (od i) = -9 ∧ I 61 (od i) = 0))
  ∧ ∀ i, i < n → I 62 (od i) = mk (fun u => decide (u < n) && decide (m ≤ pl u) && decide (par n a od (pl u) = i))
theorem t_makeTree {n p : Nat} {a : Nat → Nat → Nat} {od pl : Nat → Nat} {I : jM} (hn : n ≤ 24) (hs : ∀ u w, u < n → w < n → a u w < p ∧ a u w = a w u) (ho : Perm n od pl) (xr : XR n od pl I) (hb : ∀ j, j < n → I 59 (od j) = mk (Gi n a od j (od j))) {K : jM → Prop} (hK : ∀ J : jM, (∀ x, x < 60 ∨ 62 < x → J x = I x) → XF2 n a od pl 0 J → K J) : FN_makeTree 55 30 I K := by
  unfold FN_makeTree FN_makeTree_2
  refine lp_n2 n (fun k v J => v = nI k ∧ (∀ x, x ≠ 62 → J x = I x) ∧ ∀ u, u < k → J 62 u = 0) ?_ ?_ (Nat.zero_le _) ⟨rfl, fun _ _ => rfl, fun u hu => absurd hu (Nat.not_lt_zero u)⟩
  · rintro k v J X hk ⟨rfl, j1, j2⟩ go
    unfold FN_makeTree_2b
    dsimp only
    simp only [jrs]
    rw [j1 30 (by omega), xr.1]
    refine ⟨fun q => absurd q (ge_no hk (by omega)), fun _ => ⟨vp_in_nI (by omega) (by omega), fun J2 f2 => go _ _ ⟨nI_1 k, fun x hx => by rw [f2, jwr_ne hx]; exact j1 x hx, fun u hu => ?_⟩⟩⟩
    rw [f2, clamp (by omega), jwr_at]
    by_cases e : u = k
    · rw [if_pos ⟨rfl, e⟩]
    · rw [if_neg (by omega)]; exact j2 u (by omega)
  · rintro v J X ⟨rfl, j1, j2⟩
    unfold FN_makeTree_2b
    dsimp only
    simp only [jrs]
    rw [j1 30 (by omega), xr.1]
    refine ⟨fun _ v2 e2 => ?_, fun q => absurd (nI_le (Nat.le_refl n) (by omega)) q⟩
    unfold FN_makeTree_30
    refine lp_n2 n (fun k v J => v = nI (n - k) - 1 ∧ (∀ x, x < 60 ∨ 62 < x → J x = I x) ∧ XF2 n a od pl (n - k) J) ?_ ?_ (Nat.zero_le _) ⟨by rw [e2]; rfl, fun x hx => j1 x (by omega), fun i h1 h2 => absurd h1 (by omega), fun i hi => ?_⟩
    · rintro k v J X hk ⟨rfl, j1, t1, t2⟩ go
      rw [nI_dn hk]
      obtain ⟨i, hi⟩ : ∃ i, i = n - (k + 1) := ⟨_, rfl⟩
      have hin : i < n := by omega
      obtain ⟨o1, o2, o3, o4⟩ := ho i hin
      have xrJ : XR n od pl J := xr.fr (fun c _ _ => j1 c (by omega))
      rw [← hi]
      have hik : n - k = i + 1 := by omega
      rw [hik] at t1 t2
      unfold FN_makeTree_30b
      dsimp only
      simp only [jrs]
      rw [clamp (by omega), (xrJ.2 i hin).1, j1 59 (by omega)]
      have hvo : vp_in (nI (od i)) 24 := vp_in_nI (by omega) (by omega)
      refine ⟨fun q => absurd q (nI_pos (by omega)), fun _ => ⟨vp_in_nI (by omega) (by omega), fun v3 e3 => ?_⟩⟩
      subst e3
      rw [clamp (by omega), hb i hin]
      have e30 : (nI i + (-1)) = nI (n - (k + 1)) - 1 := by rw [nI_m1, hi]
      have hpar : ∀ j, par n a od i = j → j < n → i < j := fun j e hj => by
        have := fa_first_yes (fun j => Gi n a od i (od i) (od j)) n (by show par n a od i < n; omega)
        have e' : fa_first (fun j => Gi n a od i (od i) (od j)) n = j := e
        rw [e'] at this
        exact par_gt hs ho hin hj this
      refine ⟨hvo, t_firstOf hn ho xrJ (Gi n a od i (od i)) (fun j hjn hj => ?_) (fun hp => ?_)⟩
      · have hj : j = par n a od i := hj.symm
        have hji := hpar j hj.symm hjn
        obtain ⟨w1, w2, w3, w4⟩ := ho j hjn
        have hne : od i ≠ od j := fun e => by have := ho.inj hin hjn e; omega
        have hvp : vp_in (nI (od j)) 24 := vp_in_nI (by omega) (by omega)
        refine ⟨hvo, fun I3 f3 => ⟨hvo, fun I4 f4 => ⟨fun q => absurd q (nI_pos (by omega)), fun _ => ⟨hvp, hvo, fun I5 f5 => ⟨hvp, hvp, fun I6 f6 => go _ _ ⟨e30, fun x hx => ?_, fun m h1 h2 => ?_, fun m hm => ?_⟩⟩⟩⟩⟩⟩
        · rw [f6, jwr_ne (by omega), f5, jwr_ne (by omega), f4, jwr_ne (by omega), f3, jwr_ne (by omega)]; exact j1 x hx
        all_goals rw [clamp (by omega)] at f5 f6
        · have c60 : ∀ x, I6 60 x = if x = od i then nI (od j) else J 60 x := fun x => by
            rw [f6, jwr_ne (by omega), f5, jwr_ne (by omega), f4, jwr_ne (by omega), f3, jwr_at]
            by_cases e : x = od i <;> simp [e]
          have c61 : ∀ x, I6 61 x = if x = od i then J 61 (od j) + 1 else J 61 x := fun x => by
            rw [f6, jwr_ne (by omega), f5, jwr_at]
            by_cases e : x = od i
            · rw [if_pos ⟨rfl, e⟩, if_pos e, f4, jwr_at, if_neg (by intro hh; exact hne hh.2.symm), f3, jwr_ne (by omega)]
            · rw [if_neg (by intro hh; exact e hh.2), if_neg e, f4, jwr_at, if_neg (by intro hh; exact e hh.2), f3, jwr_ne (by omega)]
          rw [← hi] at h1
          by_cases e : m = i
          · subst e
            rw [c60, c61, if_pos rfl, if_pos rfl, ← hj, c61, if_neg (fun e => hne e.symm)]
            exact ⟨fun _ => ⟨rfl, rfl⟩, fun q => absurd hjn q⟩
          · have hm1 : od m ≠ od i := fun ee => e (ho.inj h2 hin ee)
            rw [c60, c61, if_neg hm1, if_neg hm1]
            obtain ⟨u1, u2⟩ := t1 m (by omega) h2
            refine ⟨fun q => ?_, u2⟩
            have hq : od (par n a od m) ≠ od i := fun ee => by
              have h5 := ho.inj q hin ee
              have := fa_first_yes (fun j => Gi n a od m (od m) (od j)) n q
              have := par_gt hs ho h2 q this
              omega
            rw [c61, if_neg hq]
            exact u1 q
        · have c62 : I6 62 (od m) = if od m = od j then J 62 (od j) ||| mk (fun x => decide (x = od i)) else J 62 (od m) := by
            have h5 : ∀ x, I5 62 x = J 62 x := fun x => by rw [f5, jwr_ne (by omega), f4, jwr_ne (by omega), f3, jwr_ne (by omega)]
            rw [mk_one (by omega)] at f6
            rw [f6, jwr_at, h5, h5]
            by_cases e : od m = od j <;> simp [e]
          rw [← hi, c62, t2 j hjn, t2 m hm]
          by_cases e : m = j
          · subst e
            rw [if_pos rfl, mk_or]
            apply mk_ext
            intro u _
            by_cases hu : u < n
            · by_cases hui : u = od i
              · subst hui; simp [o2, o1, ← hj]
              · have : pl u ≠ i := fun ee => hui (by rw [← ee]; exact ((ho u hu).2.2.2).symm)
                rw [show decide (i ≤ pl u) = decide (i + 1 ≤ pl u) from decide_eq_decide.mpr (by omega)]
                simp [hui]
            · have hui : u ≠ od i := by omega
              simp [hu, hui]
          · rw [if_neg (fun ee => e (ho.inj hm hjn ee))]
            apply mk_ext
            intro u _
            by_cases hu : u < n
            · by_cases hui : pl u = i
              · rw [hui, ← hj]; simp [Ne.symm e]
              · rw [show decide (i ≤ pl u) = decide (i + 1 ≤ pl u) from decide_eq_decide.mpr (by omega)]
            · simp [hu]
      · have hp : ¬ par n a od i < n := hp
        refine ⟨hvo, fun I3 f3 => ⟨hvo, fun I4 f4 => ⟨fun _ => go _ _ ⟨e30, fun x hx => ?_, fun m h1 h2 => ?_, fun m hm => ?_⟩, fun q => absurd (by decide) q⟩⟩⟩
        · rw [f4, jwr_ne (by omega), f3, jwr_ne (by omega)]; exact j1 x hx
        · have c60 : ∀ x, I4 60 x = if x = od i then -9 else J 60 x := fun x => by
            rw [f4, jwr_ne (by omega), f3, jwr_at]
            by_cases e : x = od i <;> simp [e]
          have c61 : ∀ x, I4 61 x = if x = od i then 0 else J 61 x := fun x => by
            rw [f4, jwr_at]
            by_cases e : x = od i
            · simp [e]
            · rw [if_neg (by intro hh; exact e hh.2), if_neg e, f3, jwr_ne (by omega)]
          rw [← hi] at h1
          by_cases e : m = i
          · subst e
            rw [c60, c61, if_pos rfl, if_pos rfl]
            exact ⟨fun q => absurd q hp, fun _ => ⟨rfl, rfl⟩⟩
          · have hm1 : od m ≠ od i := fun ee => e (ho.inj h2 hin ee)
            rw [c60, c61, if_neg hm1, if_neg hm1]
            obtain ⟨u1, u2⟩ := t1 m (by omega) h2
            refine ⟨fun q => ?_, u2⟩
            have hq : od (par n a od m) ≠ od i := fun ee => by
              have h5 := ho.inj q hin ee
              have := fa_first_yes (fun j => Gi n a od m (od m) (od j)) n q
              have := par_gt hs ho h2 q this
              omega
            rw [c61, if_neg hq]
            exact u1 q
        · rw [f4, jwr_ne (by omega), f3, jwr_ne (by omega), t2 m hm, ← hi]
          apply mk_ext
          intro u _
          by_cases hu : u < n
          · by_cases hui : pl u = i
            · rw [hui]
              have : ¬ par n a od i = m := by omega
              simp [this]
            · rw [show decide (i ≤ pl u) = decide (i + 1 ≤ pl u) from decide_eq_decide.mpr (by omega)]
          · simp [hu]
    · rintro v J X ⟨rfl, j1, t⟩
      unfold FN_makeTree_30b
      dsimp only
      rw [Nat.sub_self] at t ⊢
      exact ⟨fun _ => hK J j1 t, fun q => absurd (by decide) q⟩
    · rw [j2 (od i) (ho i hi).1, ← mk_nil]
      apply mk_ext
      intro u _
      by_cases hu : u < n
      · rw [decide_eq_false (show ¬ n - 0 ≤ pl u by have := (ho u hu).2.2.1; omega)]; simp
      · simp [hu]
