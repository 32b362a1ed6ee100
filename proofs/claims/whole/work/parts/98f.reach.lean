/-! ===== reaching through a set ===== -/
/-- y is reached from x, in one step or more, through none but those of S -/
def RS (g : Gr) (S : Nat → Bool) (x y : Nat) : Prop := ∀ C : Nat → Prop, (∀ w, g x w = true → C w) → (∀ z w, C z → S z = true → g z w = true → C w) → C y
section RS1
variable {g : Gr} {S T : Nat → Bool} {x y z : Nat}
theorem RS.one (h : g x y = true) : RS g S x y := fun _ h1 _ => h1 y h
theorem RS.more (h : RS g S x z) (hz : S z = true) (hg : g z y = true) : RS g S x y := fun C h1 h2 => h2 z y (h C h1 h2) hz hg
theorem RS.trans (h : RS g S x z) (hz : S z = true) (h' : RS g S z y) : RS g S x y := fun C h1 h2 => h' C (fun w hw => h2 z w (h C h1 h2) hz hw) h2
theorem RS.mono (h : RS g S x y) (hS : ∀ z, S z = true → T z = true) : RS g T x y := fun C h1 h2 => h C h1 (fun z w hc hs hg => h2 z w hc (hS z hs) hg)
theorem RS.symm (h : RS g S x y) (hg : ∀ x y, g x y = g y x) : RS g S y x := h (fun w => RS g S w x) (fun w hw => RS.one (by rw [hg]; exact hw)) (fun z w hz hs hw => RS.trans (RS.one (by rw [hg]; exact hw)) hs hz)
theorem rs_split {u : Nat} (hT : ∀ z, T z = (S z || decide (z = u))) : RS g T x y ↔ RS g S x y ∨ (RS g S x u ∧ RS g S u y) := by
  have hST : ∀ z, S z = true → T z = true := fun z h => by rw [hT z, h]; rfl
  constructor
  · intro h
    refine h (fun w => RS g S x w ∨ (RS g S x u ∧ RS g S u w)) (fun w hw => Or.inl (RS.one hw)) (fun z w hz hs hw => ?_)
    rw [hT z, Bool.or_eq_true, decide_eq_true_eq] at hs
    rcases hs with hs | rfl
    · rcases hz with hz | ⟨h1, h2⟩
      · exact Or.inl (hz.more hs hw)
      · exact Or.inr ⟨h1, h2.more hs hw⟩
    · rcases hz with hz | ⟨h1, _⟩
      · exact Or.inr ⟨hz, RS.one hw⟩
      · exact Or.inr ⟨h1, RS.one hw⟩
  · rintro (h | ⟨h1, h2⟩)
    · exact h.mono hST
    · exact (h1.mono hST).trans (by rw [hT u]; simp) (h2.mono hST)
end RS1
theorem el_iff {g : Gr} {u x y : Nat} : el g u x y = true ↔ x ≠ u ∧ y ≠ u ∧ x ≠ y ∧ (g x y = true ∨ (g u x = true ∧ g u y = true)) := by
  unfold el
  simp only [Bool.and_eq_true, Bool.not_eq_true', decide_eq_false_iff_not, Bool.or_eq_true]
  exact ⟨fun h => ⟨h.1.1.1, h.1.1.2, h.1.2, h.2⟩, fun h => ⟨⟨⟨h.1, h.2.1⟩, h.2.2.1⟩, h.2.2.2⟩⟩
def inl (l : List Nat) : Nat → Bool := fun z => decide (z ∈ l)
section RS2
variable {n p : Nat} {a : Nat → Nat → Nat}
theorem elL_iff (hs : ∀ u w, u < n → w < n → a u w < p ∧ a u w = a w u) : ∀ (k : Nat) (l : List Nat), l.length = k → l.Nodup → ∀ x y, elL (adj n a) l x y = true ↔ x ≠ y ∧ x ∉ l ∧ y ∉ l ∧ RS (adj n a) (inl l) x y := by
  have hG0 := gg_adj hs
  have hsy := hG0.symm
  intro k
  induction k with
  | zero =>
    intro l hl _ x y
    have : l = [] := List.eq_nil_of_length_eq_zero hl
    subst this
    show adj n a x y = true ↔ _
    constructor
    · intro h
      exact ⟨(hG0 x y h).2.2.2.2.1, by simp, by simp, RS.one h⟩
    · rintro ⟨-, -, -, h⟩
      exact h (fun w => adj n a x w = true) (fun w hw => hw) (fun z w _ hz _ => by simp [inl] at hz)
  | succ k ih =>
    intro l hl hnd x y
    rcases List.eq_nil_or_concat l with hnil | ⟨l', u, hcat⟩
    · rw [hnil] at hl; cases hl
    · have hcat : l = l' ++ [u] := by rw [hcat]; simp
      subst hcat
      rw [List.length_append] at hl
      have hnd' := List.nodup_append.mp hnd
      have hul : u ∉ l' := fun h => hnd'.2.2 u h u (by simp) rfl
      have IH := ih l' (by simpa using hl) hnd'.1
      have hT : ∀ z, inl (l' ++ [u]) z = (inl l' z || decide (z = u)) := fun z => by
        unfold inl
        by_cases h1 : z ∈ l' <;> by_cases h2 : z = u <;> simp [h1, h2]
      rw [elL_app, el_iff, IH x y, IH u x, IH u y, rs_split hT]
      constructor
      · rintro ⟨h1, h2, h3, (⟨-, h4, h5, h6⟩ | ⟨⟨h4, h5, h6, h7⟩, ⟨h8, h9, h10, h11⟩⟩)⟩
        · exact ⟨h3, by simp [h1, h4], by simp [h2, h5], Or.inl h6⟩
        · exact ⟨h3, by simp [h1, h6], by simp [h2, h10], Or.inr ⟨h7.symm hsy, h11⟩⟩
      · rintro ⟨h3, h1, h2, h⟩
        simp only [List.mem_append, List.mem_singleton, not_or] at h1 h2
        refine ⟨h1.2, h2.2, h3, ?_⟩
        rcases h with h | ⟨h4, h5⟩
        · exact Or.inl ⟨h3, h1.1, h2.1, h⟩
        · exact Or.inr ⟨⟨fun e => h1.2 e.symm, hul, h1.1, h4.symm hsy⟩, ⟨fun e => h2.2 e.symm, hul, h2.1, h5⟩⟩
theorem elL_set (hs : ∀ u w, u < n → w < n → a u w < p ∧ a u w = a w u) {l1 l2 : List Nat} (h1 : l1.Nodup) (h2 : l2.Nodup) (h : ∀ z, z ∈ l1 ↔ z ∈ l2) : elL (adj n a) l1 = elL (adj n a) l2 := by
  have e : inl l1 = inl l2 := by
    funext z
    unfold inl
    exact decide_eq_decide.mpr (h z)
  funext x y
  rw [Bool.eq_iff_iff, elL_iff hs _ l1 rfl h1 x y, elL_iff hs _ l2 rfl h2 x y, e, h x, h y]
theorem bitsD_mem {m z : Nat} : z ∈ bitsD n m ↔ z < n ∧ m.testBit z = true := by
  unfold bitsD
  simp
theorem bitsD_nodup (n m : Nat) : (bitsD n m).Nodup := by
  unfold bitsD
  refine List.filter_sublist.nodup ?_
  unfold List.Nodup
  rw [List.pairwise_reverse]
  exact List.Pairwise.imp (fun h e => h e.symm) List.nodup_range
theorem Hm_set (hs : ∀ u w, u < n → w < n → a u w < p ∧ a u w = a w u) {m : Nat} {l : List Nat} (hl : l.Nodup) (h : ∀ z, z ∈ l ↔ z < n ∧ m.testBit z = true) : elL (adj n a) l = Hm n a m := elL_set hs hl (bitsD_nodup n m) (fun z => by rw [h z, bitsD_mem])
theorem Hm_next (hs : ∀ u w, u < n → w < n → a u w < p ∧ a u w = a w u) {m u : Nat} (hu : u < n) (hm : m.testBit u = false) : Hm n a (m ||| 2 ^ u) = el (Hm n a m) u := by
  have hnu : u ∉ bitsD n m := fun h => by rw [(bitsD_mem.mp h).2] at hm; cases hm
  unfold Hm
  rw [← elL_app]
  refine (elL_set hs ?_ (bitsD_nodup n _) (fun z => ?_)).symm
  · rw [List.nodup_append]
    refine ⟨bitsD_nodup n m, by simp, fun x hx y hy e => ?_⟩
    rw [List.mem_singleton.mp hy] at e
    exact hnu (e ▸ hx)
  · rw [List.mem_append, List.mem_singleton, bitsD_mem, bitsD_mem, fb_bit_set]
    constructor
    · rintro (⟨h1, h2⟩ | h1)
      · exact ⟨h1, by simp [h2]⟩
      · exact ⟨by omega, by simp [h1]⟩
    · rintro ⟨h1, h2⟩
      rw [Bool.or_eq_true, decide_eq_true_eq] at h2
      rcases h2 with h2 | h2
      · exact Or.inl ⟨h1, h2⟩
      · exact Or.inr h2
theorem Hm_gg (hs : ∀ u w, u < n → w < n → a u w < p ∧ a u w = a w u) (m : Nat) : GG n (lvL (bitsD n m)) (Hm n a m) := gg_elL hs _
theorem Hm_iff (hs : ∀ u w, u < n → w < n → a u w < p ∧ a u w = a w u) {m x y : Nat} : Hm n a m x y = true ↔ x ≠ y ∧ x ∉ bitsD n m ∧ y ∉ bitsD n m ∧ RS (adj n a) (inl (bitsD n m)) x y := elL_iff hs _ _ rfl (bitsD_nodup n m) x y
end RS2
