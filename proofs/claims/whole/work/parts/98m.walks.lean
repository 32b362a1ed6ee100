/-! ===== ways of a length; rings ===== -/
/-- a way of k steps from x to y, in between through T alone -/
def Wk (g : Gr) (T : Nat → Bool) (x : Nat) : Nat → Nat → Prop
  | 0, y => y = x
  | k + 1, y => ∃ z, Wk g T x k z ∧ (k = 0 ∨ T z = true) ∧ g z y = true
section WKS
variable {g : Gr} {T : Nat → Bool} {x y z : Nat}
theorem Wk.cons (hg : g x z = true) (hz : T z = true) : ∀ k y, Wk g T z (k + 1) y → Wk g T x (k + 2) y
  | 0, y, ⟨z', h1, _, h3⟩ => by
    have h1 : z' = z := h1
    rw [h1] at h3
    exact ⟨z, ⟨x, rfl, Or.inl rfl, hg⟩, Or.inr hz, h3⟩
  | k + 1, y, ⟨z', h1, h2, h3⟩ => ⟨z', Wk.cons hg hz k z' h1, Or.inr (h2.resolve_left (by omega)), h3⟩
theorem Wk.symm (hs : ∀ x y, g x y = g y x) : ∀ k y, Wk g T x (k + 1) y → Wk g T y (k + 1) x
  | 0, y, ⟨z, h1, _, h3⟩ => by
    have h1 : z = x := h1
    rw [h1] at h3
    exact ⟨y, rfl, Or.inl rfl, by rw [hs]; exact h3⟩
  | k + 1, y, ⟨z, h1, h2, h3⟩ => Wk.cons (by rw [hs]; exact h3) (h2.resolve_left (by omega)) k x (Wk.symm hs k z h1)
/-- a way there is: y is reached -/
theorem Wk.rs : ∀ k y, Wk g T x (k + 1) y → RS g T x y
  | 0, y, ⟨z, h1, _, h3⟩ => by
    have h1 : z = x := h1
    rw [h1] at h3
    exact RS.one h3
  | k + 1, y, ⟨z, h1, h2, h3⟩ => (Wk.rs k z h1).more (h2.resolve_left (by omega)) h3
theorem rs_wk (h : RS g T x y) : ∃ k, Wk g T x (k + 1) y := h (fun w => ∃ k, Wk g T x (k + 1) w) (fun w hw => ⟨0, x, rfl, Or.inl rfl, hw⟩) (fun z w ⟨k, hk⟩ hz hw => ⟨k + 1, z, hk, Or.inr hz, hw⟩)
/-- those that are first reached in t steps -/
def Ly (g : Gr) (T : Nat → Bool) (x t z : Nat) : Prop := (t = 0 ∧ z = x) ∨ (1 ≤ t ∧ T z = true ∧ Wk g T x t z ∧ ∀ j, 1 ≤ j → j < t → ¬ Wk g T x j z)
def Nw (g : Gr) (T : Nat → Bool) (x t y : Nat) : Prop := ∀ j, 1 ≤ j → j ≤ t → ¬ Wk g T x j y
theorem ly_next {t : Nat} (hn : Nw g T x t y) : (∃ z, Ly g T x t z ∧ g z y = true) ↔ Wk g T x (t + 1) y := by
  constructor
  · rintro ⟨z, (⟨h1, h2⟩ | ⟨h1, h2, h3, -⟩), h4⟩
    · subst h1
      exact ⟨z, h2, Or.inl rfl, h4⟩
    · exact ⟨z, h3, Or.inr h2, h4⟩
  · rintro ⟨z, h1, h2, h3⟩
    refine ⟨z, ?_, h3⟩
    rcases Nat.eq_zero_or_pos t with h0 | h0
    · subst h0
      exact Or.inl ⟨rfl, h1⟩
    · have h2 := h2.resolve_left (by omega)
      refine Or.inr ⟨h0, h2, h1, fun j j1 j2 hw => hn (j + 1) (by omega) (by omega) ⟨z, hw, Or.inr h2, h3⟩⟩
theorem ly_exit {t : Nat} (he : ∀ z, ¬ Ly g T x t z) : ∀ k y, Wk g T x k y → k = 0 ∨ ∃ j, 1 ≤ j ∧ j ≤ t ∧ Wk g T x j y
  | 0, _, _ => Or.inl rfl
  | k + 1, y, hw => by
    right
    rcases Nat.lt_or_ge t (k + 1) with hlt | hge
    · obtain ⟨z, h1, h2, h3⟩ := hw
      have ht0 : t ≠ 0 := fun e => he x (Or.inl ⟨e, rfl⟩)
      have h2 := h2.resolve_left (by omega)
      rcases ly_exit he k z h1 with h4 | h4
      · omega
      · obtain ⟨j, ⟨j1, j2, j3⟩, jm⟩ := pk_least (fun j => 1 ≤ j ∧ j ≤ t ∧ Wk g T x j z) h4
        rcases Nat.lt_or_ge j t with h5 | h5
        · exact ⟨j + 1, by omega, by omega, z, j3, Or.inr h2, h3⟩
        · exfalso
          have e : j = t := by omega
          subst e
          exact he z (Or.inr ⟨j1, h2, j3, fun i i1 i2 hi => jm i i2 ⟨i1, by omega, hi⟩⟩)
    · exact ⟨k + 1, by omega, hge, hw⟩
end WKS
/-! the shortest of several -/
def Psp (Q : Nat → Prop) (r : Nat) : Prop := (r = 0 ∧ ∀ k, 1 ≤ k → ¬ Q k) ∨ ∃ k, 1 ≤ k ∧ r = k + 2 ∧ Q k ∧ ∀ j, 1 ≤ j → j < k → ¬ Q j
theorem Psp.congr {Q Q' : Nat → Prop} {r : Nat} (h : Psp Q r) (e : ∀ k, 1 ≤ k → (Q k ↔ Q' k)) : Psp Q' r := by
  rcases h with ⟨h1, h2⟩ | ⟨k, h1, h2, h3, h4⟩
  · exact Or.inl ⟨h1, fun k hk hq => h2 k hk ((e k hk).mpr hq)⟩
  · exact Or.inr ⟨k, h1, h2, (e k h1).mp h3, fun j j1 j2 hq => h4 j j1 j2 ((e j j1).mpr hq)⟩
theorem Psp.one {Q : Nat → Prop} {r s : Nat} (h : Psp Q r) (h' : Psp Q s) : r = s := by
  rcases h with ⟨h1, h2⟩ | ⟨k, h1, h2, h3, h4⟩
  · rcases h' with ⟨g1, -⟩ | ⟨k, g1, g2, g3, -⟩
    · omega
    · exact absurd g3 (h2 k g1)
  · rcases h' with ⟨g1, g2⟩ | ⟨k', g1, g2, g3, g4⟩
    · exact absurd h3 (g2 k h1)
    · rcases Nat.lt_trichotomy k k' with h | h | h
      · exact absurd h3 (g4 k h1 h)
      · omega
      · exact absurd g3 (h4 k' g1 h)
def cmb (r s : Nat) : Nat := if s = 0 then r else if r = 0 then s else if r ≤ s then r else s
theorem Psp.or {Q Q' : Nat → Prop} {r s : Nat} (h : Psp Q r) (h' : Psp Q' s) : Psp (fun k => Q k ∨ Q' k) (cmb r s) := by
  unfold cmb
  rcases h with ⟨h1, h2⟩ | ⟨k, h1, h2, h3, h4⟩
  · rcases h' with ⟨g1, g2⟩ | ⟨k', g1, g2, g3, g4⟩
    · rw [if_pos g1]
      exact Or.inl ⟨h1, fun k hk hq => hq.elim (h2 k hk) (g2 k hk)⟩
    · rw [if_neg (by omega), if_pos h1]
      exact Or.inr ⟨k', g1, g2, Or.inr g3, fun j j1 j2 hq => hq.elim (h2 j j1) (g4 j j1 j2)⟩
  · rcases h' with ⟨g1, g2⟩ | ⟨k', g1, g2, g3, g4⟩
    · rw [if_pos g1]
      exact Or.inr ⟨k, h1, h2, Or.inl h3, fun j j1 j2 hq => hq.elim (h4 j j1 j2) (g2 j j1)⟩
    · rw [if_neg (by omega), if_neg (by omega)]
      by_cases hle : r ≤ s
      · rw [if_pos hle]
        exact Or.inr ⟨k, h1, h2, Or.inl h3, fun j j1 j2 hq => hq.elim (h4 j j1 j2) (g4 j j1 (by omega))⟩
      · rw [if_neg hle]
        exact Or.inr ⟨k', g1, g2, Or.inr g3, fun j j1 j2 hq => hq.elim (h4 j j1 (by omega)) (g4 j j1 j2)⟩
theorem Psp.nil {Q : Nat → Prop} (h : ∀ k, ¬ Q k) : Psp Q 0 := Or.inl ⟨rfl, fun k _ => h k⟩
theorem cmb_le {r s b : Nat} (hr : r ≤ b) (hs : s ≤ b) : cmb r s ≤ b := by
  unfold cmb
  split
  · exact hr
  · split
    · exact hs
    · split <;> omega
/-- those that are neither v nor JOINED with it -/
def Tv (n : Nat) (g : Gr) (v : Nat) : Nat → Bool := fun z => decide (z < n) && !g v z && !decide (z = v)
def RX (n : Nat) (g : Gr) (v x k : Nat) : Prop := g v x = true ∧ ∃ y, g v y = true ∧ g x y = false ∧ y ≠ x ∧ Wk g (Tv n g v) x k y
def RM (n : Nat) (g : Gr) (v x y k : Nat) : Prop := g v x = true ∧ g v y = true ∧ g x y = false ∧ Wk g (Tv n g v) x k y
theorem rx_rm {n : Nat} {lv : Nat → Bool} {g : Gr} (hG : GG n lv g) {k : Nat} (hk : 1 ≤ k) : (∃ v, v < n ∧ ∃ x, x < n ∧ RX n g v x k) ↔ ∃ v, v < n ∧ ∃ x, x < n ∧ ∃ y, x < y ∧ y < n ∧ RM n g v x y k := by
  constructor
  · rintro ⟨v, hv, x, hx, h1, y, h2, h3, h4, h5⟩
    have hy := (hG v y h2).2.1
    rcases Nat.lt_or_ge x y with h | h
    · exact ⟨v, hv, x, hx, y, h, hy, h1, h2, h3, h5⟩
    · obtain ⟨j, rfl⟩ : ∃ j, k = j + 1 := ⟨k - 1, by omega⟩
      exact ⟨v, hv, y, hy, x, by omega, hx, h2, h1, by rw [hG.symm]; exact h3, Wk.symm hG.symm j y h5⟩
  · rintro ⟨v, hv, x, hx, y, hxy, hy, h1, h2, h3, h4⟩
    exact ⟨v, hv, x, hx, h1, y, h2, h3, by omega, h4⟩
