/-! ===== ORDERS made step by step ===== -/
/-- of those below k for which q holds, the first that none beats; N: none -/
def fm (q : Nat → Bool) (lt : Nat → Nat → Bool) (N : Nat) : Nat → Nat
  | 0 => N
  | k + 1 => if q k && (decide (fm q lt N k = N) || lt k (fm q lt N k)) then k else fm q lt N k
theorem fm_succ (q : Nat → Bool) (lt : Nat → Nat → Bool) (N k : Nat) : fm q lt N (k + 1) = if q k && (decide (fm q lt N k = N) || lt k (fm q lt N k)) then k else fm q lt N k := rfl
theorem fm_spec (q : Nat → Bool) (lt : Nat → Nat → Bool) (N : Nat) : ∀ k, k ≤ N → (fm q lt N k = N ∧ ∀ j, j < k → q j = false) ∨ (fm q lt N k < k ∧ q (fm q lt N k) = true)
  | 0, _ => Or.inl ⟨rfl, fun j h => absurd h (Nat.not_lt_zero j)⟩
  | k + 1, h => by
    have ih := fm_spec q lt N k (by omega)
    rw [fm_succ]
    by_cases hc : (q k && (decide (fm q lt N k = N) || lt k (fm q lt N k))) = true
    · rw [if_pos hc]
      rw [Bool.and_eq_true] at hc
      exact Or.inr ⟨by omega, hc.1⟩
    · rw [if_neg hc]
      rcases ih with ⟨e, h1⟩ | ⟨h1, h2⟩
      · refine Or.inl ⟨e, fun j hj => ?_⟩
        by_cases ej : j = k
        · subst ej
          cases hq : q j with
          | false => rfl
          | true => exact absurd (by simp [hq, e]) hc
        · exact h1 j (by omega)
      · exact Or.inr ⟨by omega, h2⟩
theorem fm_first {q : Nat → Bool} {N u : Nat} (hu : q u = true) (hno : ∀ w, w < u → q w = false) : ∀ k, k ≤ N → u < N → fm q (fun _ _ => false) N k = if u < k then u else N
  | 0, _, _ => by rw [if_neg (Nat.not_lt_zero u)]; rfl
  | k + 1, h, hN => by
    rw [fm_succ, fm_first hu hno k (by omega) hN]
    rcases Nat.lt_trichotomy u k with h1 | h1 | h1
    · simp [h1, show u < k + 1 by omega, show ¬ u = N by omega]
    · subst h1
      simp [hu]
    · simp [show ¬ u < k by omega, show ¬ u < k + 1 by omega, hno k h1]
def sq (pk : List Nat → Nat) : Nat → List Nat
  | 0 => []
  | i + 1 => sq pk i ++ [pk (sq pk i)]
def so (pk : List Nat → Nat) (i : Nat) : Nat := pk (sq pk i)
theorem sq_succ (pk : List Nat → Nat) (i : Nat) : sq pk (i + 1) = sq pk i ++ [so pk i] := rfl
theorem sq_mem (pk : List Nat → Nat) : ∀ i j, i < j → so pk i ∈ sq pk j
  | i, 0, h => absurd h (Nat.not_lt_zero i)
  | i, j + 1, h => by
    rw [sq_succ]
    by_cases e : i = j
    · rw [e]; simp
    · exact List.mem_append_left _ (sq_mem pk i j (by omega))
def gdp (n : Nat) (pk : List Nat → Nat) : Prop := ∀ l : List Nat, l.Nodup → (∀ x ∈ l, x < n) → l.length < n → pk l < n ∧ pk l ∉ l
theorem sq_ok {n : Nat} {pk : List Nat → Nat} (hg : gdp n pk) : ∀ i, i ≤ n → (sq pk i).Nodup ∧ (∀ x ∈ sq pk i, x < n) ∧ (sq pk i).length = i
  | 0, _ => ⟨List.nodup_nil, fun x hx => absurd hx (by simp [sq]), rfl⟩
  | i + 1, h => by
    obtain ⟨h1, h2, h3⟩ := sq_ok hg i (by omega)
    obtain ⟨h4, h5⟩ := hg _ h1 h2 (by omega)
    rw [sq_succ]
    refine ⟨?_, fun x hx => ?_, by rw [List.length_append, h3]; rfl⟩
    · rw [List.nodup_append]
      refine ⟨h1, by simp, fun x hx y hy e => ?_⟩
      rw [List.mem_singleton.mp hy] at e
      rw [e] at hx
      exact h5 hx
    · rcases List.mem_append.mp hx with h6 | h6
      · exact h2 x h6
      · rw [List.mem_singleton.mp h6]; exact h4
theorem so_ok {n : Nat} {pk : List Nat → Nat} (hg : gdp n pk) {i : Nat} (hi : i < n) : so pk i < n ∧ so pk i ∉ sq pk i := by
  obtain ⟨h1, h2, h3⟩ := sq_ok hg i (by omega)
  exact hg _ h1 h2 (by omega)
def plo (n : Nat) (od : Nat → Nat) (u : Nat) : Nat := fa_first (fun i => decide (od i = u)) n
theorem perm_of {n : Nat} {od : Nat → Nat} (h1 : ∀ i, i < n → od i < n) (h2 : ∀ i j, i < j → j < n → od i ≠ od j) : Perm n od (plo n od) := by
  intro i hi
  refine ⟨h1 i hi, ?_, ?_⟩
  · exact fa_first_spec hi (by simp) (fun j hj => by simpa using h2 j i hj hi)
  · obtain ⟨j, hj, e⟩ := fb_onto h1 h2 hi
    have hlt : fa_first (fun k => decide (od k = i)) n < n := by
      have hle := fa_first_le (fun k => decide (od k = i)) n
      rcases Nat.lt_or_ge (fa_first (fun k => decide (od k = i)) n) n with h | h
      · exact h
      · have := fa_first_no (fun k => decide (od k = i)) n j (by omega)
        simp [e] at this
    exact ⟨hlt, by have h9 := fa_first_yes (fun k => decide (od k = i)) n hlt; exact of_decide_eq_true h9⟩
theorem so_perm {n : Nat} {pk : List Nat → Nat} (hg : gdp n pk) : Perm n (so pk) (plo n (so pk)) := perm_of (fun i hi => (so_ok hg hi).1) (fun i j hij hj e => (so_ok hg hj).2 (by rw [← e]; exact sq_mem pk i j hij))
theorem ct_list (n : Nat) : ∀ l : List Nat, fb_ct (fun x => decide (x ∈ l)) n ≤ l.length
  | [] => by rw [fb_ct_zero.mpr (fun k _ => by simp)]; exact Nat.zero_le _
  | u :: l => by
    have ih := ct_list n l
    rw [List.length_cons]
    by_cases h : u < n ∧ u ∉ l
    · have := ct_add (D := fun x => decide (x ∈ l)) h.1 (by simpa using h.2)
      rw [fb_ct_cong (q := fun x => decide (x ∈ l) || decide (x = u)) (fun k _ => by
        by_cases e1 : k = u <;> by_cases e2 : k ∈ l <;> simp [e1, e2]), this]
      omega
    · rw [fb_ct_cong (q := fun x => decide (x ∈ l)) (fun k hk => by
        by_cases e1 : k = u
        · subst e1
          have : k ∈ l := Classical.byContradiction (fun hc => h ⟨hk, hc⟩)
          simp [this]
        · simp [e1])]
      omega
theorem some_left {n : Nat} {l : List Nat} (h : l.length < n) : ∃ u, u < n ∧ u ∉ l := by
  apply Classical.byContradiction
  intro hc
  have h1 := ct_list n l
  rw [fb_ct_all.mpr (fun k hk => by
    have : k ∈ l := Classical.byContradiction (fun h2 => hc ⟨k, hk, h2⟩)
    simpa using this)] at h1
  omega
/-- the pick of the rules 0, 1, 2 -/
def cst (r : Nat) (g : Gr) (u : Nat) : Nat := if r = 0 then 0 else if r = 1 then ct (g u) else ms g u
def frs (n : Nat) (hd : Nat → Bool) (l : List Nat) : Bool := (List.range n).any (fun w => !decide (w ∈ l) && !hd w)
def cnd (n : Nat) (hd : Nat → Bool) (l : List Nat) (u : Nat) : Bool := decide (u < n) && !decide (u ∈ l) && !(frs n hd l && hd u)
def ltc (r : Nat) (g : Gr) (k m : Nat) : Bool := decide (cst r g k < cst r g m)
def pkG (n : Nat) (a : Nat → Nat → Nat) (hd : Nat → Bool) (r : Nat) (l : List Nat) : Nat := fm (cnd n hd l) (ltc r (elL (adj n a) l)) n n
theorem cst_le (r : Nat) (g : Gr) (u : Nat) : cst r g u ≤ 288 := by
  unfold cst
  have := ct_le (g u)
  have := ms_le g u
  split
  · omega
  · split <;> omega
theorem frs_iff {n : Nat} {hd : Nat → Bool} {l : List Nat} : frs n hd l = true ↔ ∃ w, w < n ∧ w ∉ l ∧ hd w = false := by
  unfold frs
  rw [List.any_eq_true]
  constructor
  · rintro ⟨w, h1, h2⟩
    simp at h2
    exact ⟨w, List.mem_range.mp h1, h2.1, h2.2⟩
  · rintro ⟨w, h1, h2, h3⟩
    exact ⟨w, List.mem_range.mpr h1, by simp [h2, h3]⟩
theorem cnd_iff {n : Nat} {hd : Nat → Bool} {l : List Nat} {u : Nat} : cnd n hd l u = true ↔ u < n ∧ u ∉ l ∧ (frs n hd l = true → hd u = false) := by
  unfold cnd
  cases h1 : frs n hd l <;> cases h2 : hd u <;> simp
theorem cnd_some {n : Nat} {hd : Nat → Bool} {l : List Nat} (h : l.length < n) : ∃ u, u < n ∧ cnd n hd l u = true := by
  cases hf : frs n hd l with
  | true =>
    obtain ⟨w, h1, h2, h3⟩ := frs_iff.mp hf
    exact ⟨w, h1, cnd_iff.mpr ⟨h1, h2, fun _ => h3⟩⟩
  | false =>
    obtain ⟨u, h1, h2⟩ := some_left h
    exact ⟨u, h1, cnd_iff.mpr ⟨h1, h2, fun e => by rw [hf] at e; cases e⟩⟩
theorem fm_some {q : Nat → Bool} {lt : Nat → Nat → Bool} {n : Nat} (h : ∃ u, u < n ∧ q u = true) : fm q lt n n < n ∧ q (fm q lt n n) = true := by
  rcases fm_spec q lt n n (Nat.le_refl n) with ⟨-, h1⟩ | h1
  · obtain ⟨u, h2, h3⟩ := h
    rw [h1 u h2] at h3; cases h3
  · exact h1
theorem pkG_ok (n : Nat) (a : Nat → Nat → Nat) (hd : Nat → Bool) (r : Nat) : gdp n (pkG n a hd r) := fun l _ _ h3 => by
  have h := fm_some (lt := ltc r (elL (adj n a) l)) (cnd_some (hd := hd) h3)
  exact ⟨h.1, (cnd_iff.mp h.2).2.1⟩
/-- the pick of SEARCH -/
def jnl (n : Nat) (a : Nat → Nat → Nat) (l : List Nat) (u : Nat) : Nat := ct (fun w => adj n a u w && decide (w ∈ l))
def pkS (n : Nat) (a : Nat → Nat → Nat) (l : List Nat) : Nat := fm (fun u => decide (u < n) && !decide (u ∈ l)) (fun k m => decide (jnl n a l m < jnl n a l k)) n n
theorem pkS_ok (n : Nat) (a : Nat → Nat → Nat) : gdp n (pkS n a) := fun l _ _ h3 => by
  obtain ⟨u, h1, h2⟩ := some_left h3
  have h := fm_some (q := fun u => decide (u < n) && !decide (u ∈ l)) (lt := fun k m => decide (jnl n a l m < jnl n a l k)) ⟨u, h1, by simp [h1, h2]⟩
  refine ⟨h.1, ?_⟩
  have h4 := h.2
  rw [Bool.and_eq_true] at h4
  unfold pkS
  simpa using h4.2
theorem rev_perm {n : Nat} {od pl : Nat → Nat} (h : Perm n od pl) : Perm n (fun i => od (n - 1 - i)) (fun u => n - 1 - pl u) := by
  intro i hi
  obtain ⟨h1, h2, -, -⟩ := h (n - 1 - i) (by omega)
  obtain ⟨-, -, h3, h4⟩ := h i hi
  refine ⟨h1, by show n - 1 - pl (od (n - 1 - i)) = i; rw [h2]; omega, by show n - 1 - pl i < n; omega, ?_⟩
  show od (n - 1 - (n - 1 - pl i)) = i
  rw [show n - 1 - (n - 1 - pl i) = pl i by omega]; exact h4
