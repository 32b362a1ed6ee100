theorem t_copyW {I : jM} {c1 c2 n u : Nat} {gu : Nat → Bool} (hu : u < n) (hn : n ≤ 24) (l1 : n ≤ jl c1) (l2 : n ≤ jl c2) (m1 : jl c1 < 2 ^ 31) (m2 : jl c2 < 2 ^ 31) (e : I c1 u = mk gu) {K : jM → Prop} (hK : ∀ J : jM, (∀ x, x ≠ c2 → J x = I x) → (∀ w, w < n → J c2 w = if gu w then ((I c1 w) ||| mk gu) &&& ((mk (fun i => decide (i = w)) ||| mk (fun i => decide (i = u))) ^^^ (-1)) else I c1 w) → K J) : NE_copyWithout (nI u) c1 c2 (nI n) I K := by
  unfold NE_copyWithout NE_copyWithout_8
  refine ⟨vp_in_nI (by omega) m1, fun v ev => ?_⟩
  rw [clamp (by omega), e] at ev
  subst ev
  refine lp_n2 n (fun k v J => v = nI k ∧ (∀ x, x ≠ c2 → J x = I x) ∧ (∀ w, k ≤ w → J c1 w = I c1 w) ∧ ∀ w, w < k → J c2 w = if gu w then ((I c1 w) ||| mk gu) &&& ((mk (fun i => decide (i = w)) ||| mk (fun i => decide (i = u))) ^^^ (-1)) else I c1 w) ?_ ?_ (Nat.zero_le n) ⟨rfl, fun _ _ => rfl, fun _ _ => rfl, fun w hw => absurd hw (Nat.not_lt_zero w)⟩
  · rintro k v J X hk ⟨rfl, j1, j2, j3⟩ go
    unfold NE_copyWithout_8b NE_copyWithout_30
    dsimp only
    refine ⟨fun q => absurd q (ge_no hk (by omega)), fun _ => ?_⟩
    rw [mk_tst1 _ (by omega), clamp (by omega), mk_one (show k < 24 by omega), mk_one (show u < 24 by omega)]
    have hi1 : vp_in (nI k) (jl c1) := vp_in_nI (by omega) m1
    have hi2 : vp_in (nI k) (jl c2) := vp_in_nI (by omega) m2
    have fin : ∀ (val : Int32) (J1 : jM), J1 = jwr J c2 k val → val = (if gu k then ((I c1 k) ||| mk gu) &&& ((mk (fun i => decide (i = k)) ||| mk (fun i => decide (i = u))) ^^^ (-1)) else I c1 k) → X (nI k + 1, J1) := by
      intro val J1 f1 hval
      refine go _ _ ⟨nI_1 k, fun x hx => by rw [f1, jwr_ne hx]; exact j1 x hx, fun w hw => ?_, fun w hw => ?_⟩
      · rw [f1, jwr_at, if_neg (by omega)]
        exact j2 w (by omega)
      · rw [f1, jwr_at]
        by_cases hwk : w = k
        · subst hwk
          rw [if_pos ⟨rfl, rfl⟩]; exact hval
        · rw [if_neg (by omega)]; exact j3 w (by omega)
    refine ⟨fun q => ⟨fun _ => ⟨hi1, hi2, fun J1 f1 => fin _ J1 f1 ?_⟩, fun q2 => absurd rfl q2⟩, fun q => ⟨fun q2 => absurd q2 (by decide), fun _ => ⟨hi1, hi2, fun J1 f1 => fin _ J1 f1 ?_⟩⟩⟩
    · rw [if_neg q]; exact j2 k (Nat.le_refl k)
    · rw [if_pos q, j2 k (Nat.le_refl k)]
  · rintro v J X ⟨rfl, j1, j2, j3⟩
    unfold NE_copyWithout_8b
    dsimp only
    exact ⟨fun _ => hK J j1 j3, fun q => absurd (nI_le (Nat.le_refl n) (by omega)) q⟩
/-- the row of a living one, when u is OUT -/
theorem el_row {n : Nat} {lv : Nat → Bool} {g : Gr} (hg : GG n lv g) {u w : Nat} (hwu : w ≠ u) : (if g u w then ((mk (g w)) ||| mk (g u)) &&& ((mk (fun i => decide (i = w)) ||| mk (fun i => decide (i = u))) ^^^ (-1)) else mk (g w)) = mk (el g u w) := by
  cases h : g u w with
  | true =>
    rw [if_pos rfl, mk_or, mk_or, mk_diff]
    apply mk_ext
    intro i _
    unfold el
    rw [h]
    by_cases e1 : i = w
    · subst e1; simp
    · by_cases e2 : i = u
      · subst e2; simp
      · simp [e1, e2, hwu, Ne.symm e1]
  | false =>
    rw [if_neg (by decide)]
    apply mk_ext
    intro i _
    unfold el
    rw [h]
    by_cases e2 : i = u
    · subst e2
      rw [hg.symm w i, h]; simp
    · by_cases e1 : w = i
      · subst e1
        cases hh : g w w with
        | true => exact absurd rfl (hg w w hh).2.2.2.2.1
        | false => simp
      · simp [e1, e2, hwu]
theorem t_remove {I : jM} {h c n u : Nat} {lv : Nat → Bool} {g : Gr} (hh : okh h c) (nk : NK h c n lv g I) (hg : GG n lv g) (hu : u < n) (hl : lv u = true) (hn : n ≤ 24) {K : jM → Prop} (hK : ∀ J : jM, (∀ x, x ≠ h → x ≠ c → J x = I x) → (∀ k, k ≠ 1 → J h k = I h k) → NK h c n (fun x => lv x && !decide (x = u)) (el g u) J → K J) : NE_remove h (nI u) I K := by
  obtain ⟨h1, h2, h3, h4, h5⟩ := hh
  unfold NE_remove
  intro I1 e1
  have q1 : ∀ k, k ≠ 1 → I1 h k = I h k := fun k hk => by rw [e1, jwr_at, if_neg (by omega)]
  have q2 : ∀ x, x ≠ h → I1 x = I x := fun x hx => by rw [e1, jwr_ne hx]
  rw [h1, q1 2 (by omega), nk.1]
  refine t_copyW (gu := g u) hu hn (by omega) (by omega) (by omega) (by omega) (by rw [q2 c (Ne.symm h4)]; exact nk.2.2 u hu hl) (fun J j1 j2 => hK J (fun x hx hc => (j1 x hc).trans (q2 x hx)) (fun k hk => by rw [j1 h h4]; exact q1 k hk) ⟨by rw [j1 h h4, q1 2 (by omega)]; exact nk.1, ?_, fun w hw hlw => ?_⟩)
  · rw [j1 h h4, e1, jwr_at, if_pos ⟨rfl, rfl⟩, nk.2.1, mk_one (by omega), mk_diff]
    exact mk_ext (fun i _ => by cases decide (i < n) <;> simp)
  · simp only [Bool.and_eq_true, Bool.not_eq_true', decide_eq_false_iff_not] at hlw
    rw [j2 w hw, q2 c (Ne.symm h4), nk.2.2 w hw hlw.1]
    exact el_row hg hlw.2
theorem okh65 : okh 65 66 := by unfold okh; decide +kernel
theorem okh56 : okh 56 57 := by unfold okh; decide +kernel
theorem okh53 : okh 53 54 := by unfold okh; decide +kernel
theorem okh34 : okh 34 35 := by unfold okh; decide +kernel
theorem elL_app (g : Gr) : ∀ (l : List Nat) (u : Nat), elL g (l ++ [u]) = el (elL g l) u
  | [], _ => rfl
  | x :: l, u => elL_app (el g x) l u
/-- those that live when l is OUT -/
def lvL (l : List Nat) : Nat → Bool := fun x => !decide (x ∈ l)
theorem lvL_app (l : List Nat) (u : Nat) : (fun x => lvL l x && !decide (x = u)) = lvL (l ++ [u]) := by
  funext x
  unfold lvL
  by_cases h : x ∈ l <;> by_cases h2 : x = u <;> simp [h, h2]
theorem lvL_nil : lvL [] = fun _ => true := by funext x; simp [lvL]
theorem gg_elL {n p : Nat} {a : Nat → Nat → Nat} (hs : ∀ u w, u < n → w < n → a u w < p ∧ a u w = a w u) (l : List Nat) : GG n (lvL l) (elL (adj n a) l) := by
  suffices H : ∀ (l : List Nat) (g : Gr) (o : List Nat), GG n (lvL o) g → GG n (lvL (o ++ l)) (elL g l) by
    have := H l (adj n a) [] (by rw [lvL_nil]; exact gg_adj hs)
    simpa [elL] using this
  intro l
  induction l with
  | nil => intro g o hg; simpa [elL] using hg
  | cons u l ih =>
    intro g o hg
    have h1 := gg_el hg u
    rw [lvL_app] at h1
    have := ih (el g u) (o ++ [u]) h1
    simpa [elL] using this
