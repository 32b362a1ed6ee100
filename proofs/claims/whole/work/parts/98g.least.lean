/-! ===== LEAST: what is JOINED and what is BEHIND ===== -/
def dg (g : Gr) : Nat := fb_sm (fun w => ct (g w)) 24
theorem sm_ind (q : Nat → Bool) : ∀ k, fb_sm (fun x => if q x then 1 else 0) k = fb_ct q k
  | 0 => rfl
  | k + 1 => by rw [fb_sm_succ, fb_ct_succ, sm_ind q k]
theorem shake {g : Gr} (hsy : ∀ x y, g x y = g y x) (hir : ∀ x, g x x = false) : ∀ k, fb_sm (fun x => fb_ct (g x) k) k = 2 * fb_sm (fun x => fb_ct (g x) x) k
  | 0 => rfl
  | k + 1 => by
    rw [fb_sm_succ, fb_sm_succ]
    have e : fb_sm (fun x => fb_ct (g x) (k + 1)) k = fb_sm (fun x => fb_ct (g x) k) k + fb_ct (g k) k := by
      have e1 : fb_sm (fun x => fb_ct (g x) (k + 1)) k = fb_sm (fun x => fb_ct (g x) k + (if g k x then 1 else 0)) k := fb_sm_cong (fun x _ => by rw [fb_ct_succ, hsy x k])
      rw [e1, fb_sm_add, sm_ind]
    rw [e, shake hsy hir k, fb_ct_succ, hir k]
    simp
    omega
theorem GG.irr {n : Nat} {lv : Nat → Bool} {g : Gr} (h : GG n lv g) (x : Nat) : g x x = false := by
  cases hh : g x x with
  | true => exact absurd rfl (h x x hh).2.2.2.2.1
  | false => rfl
theorem dg_even {n : Nat} {lv : Nat → Bool} {g : Gr} (h : GG n lv g) : ∃ e, dg g = 2 * e := ⟨_, shake h.symm h.irr 24⟩
theorem dg_el {n : Nat} {lv : Nat → Bool} {g : Gr} (h : GG n lv g) {u : Nat} (hu : u < 24) : dg (el g u) + 2 * ct (g u) = dg g + fb_sm (fun w => if g u w then ct (fun y => g u y && !g w y && !decide (y = w)) else 0) 24 := by
  have hsy := h.symm
  have hir := h.irr
  have row : ∀ w, w < 24 → ct (el g u w) + ((if w = u then ct (g u) else 0) + (if g u w then 1 else 0)) = ct (g w) + (if g u w then ct (fun y => g u y && !g w y && !decide (y = w)) else 0) := by
    intro w hw
    by_cases e : w = u
    · subst e
      rw [if_pos rfl, hir w]
      have : ct (el g w w) = 0 := fb_ct_zero.mpr (fun k _ => by unfold el; simp)
      rw [this]; simp
    · rw [if_neg e]
      cases hg : g u w with
      | true =>
        have hwu : g w u = true := by rw [hsy]; exact hg
        have e1 : ct (fun y => g w y || (g u y && !g w y && !decide (y = w))) = ct (g w) + ct (fun y => g u y && !g w y && !decide (y = w)) := fb_ct_or (fun k _ hh => by
          have h1 := hh.1
          have h2 := hh.2
          rw [h1] at h2; simp at h2)
        have e2 : ct (fun y => el g u w y || decide (y = u)) = ct (el g u w) + 1 := ct_add hu (by unfold el; simp)
        have e3 : ct (fun y => g w y || (g u y && !g w y && !decide (y = w))) = ct (fun y => el g u w y || decide (y = u)) := ct_cong (fun y _ => by
          unfold el
          rw [hg]
          by_cases q1 : y = u
          · subst q1; simp [hwu]
          · by_cases q2 : y = w
            · subst q2; simp [hir, q1]
            · have q3 : ¬ w = y := fun q => q2 q.symm
              cases g w y <;> cases g u y <;> simp [e, q1, q2, q3])
        simp only [if_true]
        omega
      | false =>
        have hwu : g w u = false := by rw [hsy]; exact hg
        have e1 : ct (el g u w) = ct (g w) := ct_cong (fun y _ => by
          unfold el
          rw [hg]
          by_cases q1 : y = u
          · subst q1; simp [hwu]
          · by_cases q2 : y = w
            · subst q2; simp [hir]
            · have q3 : ¬ w = y := fun q => q2 q.symm
              simp [e, q1, q3])
        rw [e1]; simp
  have hsum := fb_sm_cong row
  rw [fb_sm_add, fb_sm_add, fb_sm_add, sm_ind] at hsum
  have e4 := fb_sm_upd (fun _ => 0) (ct (g u)) hu
  rw [fb_sm_const] at e4
  have e5 : fb_ct (fun x => g u x) 24 = ct (g u) := rfl
  rw [e5] at hsum
  have e6 : fb_sm (fun k => if k = u then ct (g u) else 0) 24 = ct (g u) := by omega
  rw [e6] at hsum
  unfold dg
  omega
theorem dg_step {n : Nat} {lv : Nat → Bool} {g : Gr} (h : GG n lv g) {u : Nat} (hu : u < 24) : ct (g u) + dg (el g u) / 2 = ms g u + dg g / 2 := by
  have h1 := dg_el h hu
  obtain ⟨e1, h2⟩ := dg_even h
  obtain ⟨e2, h3⟩ := dg_even (gg_el h u)
  unfold ms
  omega
/-! how many are left -/
def rm (n m : Nat) : Nat := fb_ct (fun u => !m.testBit u) n
theorem rm_next {n m u : Nat} (hu : u < n) (hm : m.testBit u = false) : rm n (m ||| 2 ^ u) + 1 = rm n m := by
  unfold rm
  rw [← ct_add hu (by rw [fb_bit_set]; simp)]
  apply fb_ct_cong
  intro k _
  rw [fb_bit_set]
  by_cases e : k = u
  · subst e; simp [hm]
  · simp [e]
theorem rm_zero {n m : Nat} (hm : m < 2 ^ n) (h : rm n m = 0) : m = 2 ^ n - 1 := by
  apply Nat.eq_of_testBit_eq
  intro i
  rw [Nat.testBit_two_pow_sub_one]
  by_cases hi : i < n
  · have := fb_ct_zero.mp h i hi
    simp [hi] at this ⊢; exact this
  · rw [Nat.testBit_lt_two_pow (Nat.lt_of_lt_of_le hm (Nat.pow_le_pow_right (by decide) (by omega)))]
    simp [hi]
theorem rm_all (n : Nat) : rm n (2 ^ n - 1) = 0 := fb_ct_zero.mpr (fun k hk => by rw [Nat.testBit_two_pow_sub_one]; simp [hk])
theorem or_lt {n m u : Nat} (hm : m < 2 ^ n) (hu : u < n) : m ||| 2 ^ u < 2 ^ n := Nat.or_lt_two_pow hm (Nat.pow_lt_pow_right (by decide) hu)
/-! least of several -/
theorem mnn_succ (q : Nat → Bool) (v : Nat → Nat) (k : Nat) : mnn q v (k + 1) = if q k then min (mnn q v k) (v k) else mnn q v k := rfl
theorem mnn_cong {q : Nat → Bool} {v w : Nat → Nat} : ∀ {k : Nat}, (∀ u, u < k → q u = true → v u = w u) → mnn q v k = mnn q w k
  | 0, _ => rfl
  | k + 1, h => by
    rw [mnn_succ, mnn_succ, mnn_cong (fun u hu hq => h u (by omega) hq)]
    by_cases hq : q k = true
    · rw [if_pos hq, if_pos hq, h k (by omega) hq]
    · rw [if_neg hq, if_neg hq]
theorem mnn_min {q : Nat → Bool} {v : Nat → Nat} : ∀ {k : Nat}, mnn q v k ≤ 576 ∧ ∀ u, u < k → q u = true → mnn q v k ≤ v u
  | 0 => ⟨Nat.le_refl _, fun u h => absurd h (Nat.not_lt_zero u)⟩
  | k + 1 => by
    obtain ⟨h1, h2⟩ := mnn_min (q := q) (v := v) (k := k)
    rw [mnn_succ]
    by_cases hq : q k = true
    · rw [if_pos hq]
      refine ⟨by omega, fun u hu hqu => ?_⟩
      by_cases e : u = k
      · subst e; omega
      · have := h2 u (by omega) hqu; omega
    · rw [if_neg hq]
      refine ⟨h1, fun u hu hqu => ?_⟩
      by_cases e : u = k
      · subst e; exact absurd hqu hq
      · exact h2 u (by omega) hqu
theorem mnn_get {q : Nat → Bool} {v : Nat → Nat} : ∀ {k : Nat}, mnn q v k = 576 ∨ ∃ u, u < k ∧ q u = true ∧ mnn q v k = v u
  | 0 => Or.inl rfl
  | k + 1 => by
    have ih := mnn_get (q := q) (v := v) (k := k)
    rw [mnn_succ]
    by_cases hq : q k = true
    · rw [if_pos hq]
      rcases Nat.le_total (mnn q v k) (v k) with h | h
      · rw [show min (mnn q v k) (v k) = mnn q v k by omega]
        rcases ih with h1 | ⟨u, h1, h2, h3⟩
        · exact Or.inl h1
        · exact Or.inr ⟨u, by omega, h2, h3⟩
      · exact Or.inr ⟨k, by omega, hq, by omega⟩
    · rw [if_neg hq]
      rcases ih with h1 | ⟨u, h1, h2, h3⟩
      · exact Or.inl h1
      · exact Or.inr ⟨u, by omega, h2, h3⟩
theorem lsF_stab {n : Nat} {c jo : Nat → Nat → Nat} : ∀ f1 f2 m, m < 2 ^ n → rm n m ≤ f1 → rm n m ≤ f2 → lsF n c jo f1 m = lsF n c jo f2 m
  | 0, f2, m, hm, h1, _ => by
    have e := rm_zero hm (by omega)
    cases f2 with
    | zero => rfl
    | succ f2 => exact (if_pos e).symm
  | f1 + 1, 0, m, hm, _, h2 => by
    have e := rm_zero hm (by omega)
    exact if_pos e
  | f1 + 1, f2 + 1, m, hm, h1, h2 => by
    show (if m = 2 ^ n - 1 then 0 else _) = (if m = 2 ^ n - 1 then 0 else _)
    by_cases e : m = 2 ^ n - 1
    · rw [if_pos e, if_pos e]
    · rw [if_neg e, if_neg e]
      apply mnn_cong
      intro u hu hq
      have hb : m.testBit u = false := by simpa using hq
      have hr := rm_next hu hb
      rw [lsF_stab f1 f2 (m ||| 2 ^ u) (or_lt hm hu) (by omega) (by omega)]
theorem ls_step {n : Nat} {c jo : Nat → Nat → Nat} (hn : 1 ≤ n) {m : Nat} (hm : m < 2 ^ n) (he : m ≠ 2 ^ n - 1) : lsF n c jo n m = mnn (fun u => !m.testBit u) (fun u => jo (c m u) (lsF n c jo n (m ||| 2 ^ u))) n := by
  obtain ⟨k, rfl⟩ : ∃ k, n = k + 1 := ⟨n - 1, by omega⟩
  show (if m = 2 ^ (k + 1) - 1 then 0 else _) = _
  rw [if_neg he]
  apply mnn_cong
  intro u hu hq
  have hb : m.testBit u = false := by simpa using hq
  have hr := rm_next hu hb
  have hl : rm (k + 1) m ≤ k + 1 := fb_ct_le _ _
  rw [lsF_stab k (k + 1) (m ||| 2 ^ u) (or_lt hm hu) (by omega) (by omega)]
theorem ls_all {n : Nat} {c jo : Nat → Nat → Nat} (hn : 1 ≤ n) : lsF n c jo n (2 ^ n - 1) = 0 := by
  obtain ⟨k, rfl⟩ : ∃ k, n = k + 1 := ⟨n - 1, by omega⟩
  exact if_pos rfl
section LS
variable {n p : Nat} {a : Nat → Nat → Nat}
theorem lsB_step (hn : 1 ≤ n) {m : Nat} (hm : m < 2 ^ n) (he : m ≠ 2 ^ n - 1) : lsB n a m = mnn (fun u => !m.testBit u) (fun u => ct (Hm n a m u) + lsB n a (m ||| 2 ^ u)) n := ls_step hn hm he
theorem lsW_step (hn : 1 ≤ n) {m : Nat} (hm : m < 2 ^ n) (he : m ≠ 2 ^ n - 1) : lsW n a m = mnn (fun u => !m.testBit u) (fun u => max (ct (Hm n a m u)) (lsW n a (m ||| 2 ^ u))) n := ls_step hn hm he
theorem lsL_step (hn : 1 ≤ n) {m : Nat} (hm : m < 2 ^ n) (he : m ≠ 2 ^ n - 1) : lsL n a m = mnn (fun u => !m.testBit u) (fun u => ms (Hm n a m) u + lsL n a (m ||| 2 ^ u)) n := ls_step hn hm he
/-- pairs that are JOINED when m is OUT -/
def Em (n : Nat) (a : Nat → Nat → Nat) (m : Nat) : Nat := dg (Hm n a m) / 2
theorem ls_all3 (hn1 : 1 ≤ n) (hn : n ≤ 12) (hs : ∀ u w, u < n → w < n → a u w < p ∧ a u w = a w u) : ∀ d m, m < 2 ^ n → rm n m = d → lsB n a m ≤ 24 * d ∧ lsL n a m + Em n a m = lsB n a m ∧ lsW n a m ≤ 24
  | 0, m, hm, hd => by
    have e := rm_zero hm hd
    have e1 : lsB n a m = 0 := by rw [e]; exact ls_all hn1
    have e2 : lsL n a m = 0 := by rw [e]; exact ls_all hn1
    have e3 : lsW n a m = 0 := by rw [e]; exact ls_all hn1
    have e4 : Em n a m = 0 := by
      unfold Em dg
      have : fb_sm (fun w => ct (Hm n a m w)) 24 = 0 := by
        have h := fb_sm_bound (f := fun w => ct (Hm n a m w)) (c := 0) (n := 24) (fun w _ => by
          have : ct (Hm n a m w) = 0 := fb_ct_zero.mpr (fun y _ => by
            cases hh : Hm n a m w y with
            | false => rfl
            | true =>
              obtain ⟨h1, -, h3, -⟩ := Hm_gg hs m w y hh
              have : w ∈ bitsD n m := bitsD_mem.mpr ⟨h1, by rw [e, Nat.testBit_two_pow_sub_one]; simp [h1]⟩
              simp [lvL, this] at h3)
          omega)
        omega
      rw [this]
    omega
  | d + 1, m, hm, hd => by
    have he : m ≠ 2 ^ n - 1 := fun e => by rw [e, rm_all] at hd; omega
    have hq : ∃ u, u < n ∧ (!m.testBit u) = true := fb_ct_pos.mp (by show 0 < rm n m; omega)
    have hdn : rm n m ≤ n := fb_ct_le _ _
    have ih : ∀ u, u < n → (!m.testBit u) = true → lsB n a (m ||| 2 ^ u) ≤ 24 * d ∧ lsL n a (m ||| 2 ^ u) + Em n a (m ||| 2 ^ u) = lsB n a (m ||| 2 ^ u) ∧ lsW n a (m ||| 2 ^ u) ≤ 24 := fun u hu hb => by
      have := rm_next hu (m := m) (by simpa using hb)
      exact ls_all3 hn1 hn hs d _ (or_lt hm hu) (by omega)
    have st : ∀ u, u < n → (!m.testBit u) = true → ct (Hm n a m u) + Em n a (m ||| 2 ^ u) = ms (Hm n a m) u + Em n a m := fun u hu hb => by
      unfold Em
      rw [Hm_next hs hu (by simpa using hb)]
      exact dg_step (Hm_gg hs m) (by omega)
    have hB := lsB_step (a := a) hn1 hm he
    have hL := lsL_step (a := a) hn1 hm he
    have hW := lsW_step (a := a) hn1 hm he
    obtain ⟨u0, hu0, hq0⟩ := hq
    have mB := mnn_min (q := fun u => !m.testBit u) (v := fun u => ct (Hm n a m u) + lsB n a (m ||| 2 ^ u)) (k := n)
    have mL := mnn_min (q := fun u => !m.testBit u) (v := fun u => ms (Hm n a m) u + lsL n a (m ||| 2 ^ u)) (k := n)
    have mW := mnn_min (q := fun u => !m.testBit u) (v := fun u => max (ct (Hm n a m u)) (lsW n a (m ||| 2 ^ u))) (k := n)
    rw [← hB] at mB
    rw [← hL] at mL
    rw [← hW] at mW
    have b0 := mB.2 u0 hu0 hq0
    have w0 := mW.2 u0 hu0 hq0
    have l0 := mL.2 u0 hu0 hq0
    have c0 := ct_le (Hm n a m u0)
    have i0 := ih u0 hu0 hq0
    have s0 := st u0 hu0 hq0
    refine ⟨by omega, ?_, by omega⟩
    have gB := mnn_get (q := fun u => !m.testBit u) (v := fun u => ct (Hm n a m u) + lsB n a (m ||| 2 ^ u)) (k := n)
    have gL := mnn_get (q := fun u => !m.testBit u) (v := fun u => ms (Hm n a m) u + lsL n a (m ||| 2 ^ u)) (k := n)
    rw [← hB] at gB
    rw [← hL] at gL
    rcases gB with gB | ⟨u1, h1, h2, h3⟩
    · omega
    · rcases gL with gL | ⟨u2, g1, g2, g3⟩
      · omega
      · have i1 := ih u1 h1 h2
        have i2 := ih u2 g1 g2
        have s1 := st u1 h1 h2
        have s2 := st u2 g1 g2
        have x1 := mL.2 u1 h1 h2
        have x2 := mB.2 u2 g1 g2
        omega
theorem ls_bounds (hn1 : 1 ≤ n) (hn : n ≤ 12) (hs : ∀ u w, u < n → w < n → a u w < p ∧ a u w = a w u) {m : Nat} (hm : m < 2 ^ n) : lsB n a m ≤ 288 ∧ lsL n a m + Em n a m = lsB n a m ∧ lsW n a m ≤ 24 := by
  have h := ls_all3 hn1 hn hs _ m hm rfl
  have : rm n m ≤ n := fb_ct_le _ _
  exact ⟨by omega, h.2⟩
end LS
