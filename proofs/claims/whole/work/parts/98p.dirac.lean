/-! ===== CLEAN nets: no RING, and one after the other whose NEIGHBOURS are all JOINED ===== -/
noncomputable def pb (P : Prop) : Bool := @decide P (Classical.propDecidable P)
theorem pb_iff {P : Prop} : pb P = true ↔ P := @decide_eq_true_iff P (Classical.propDecidable P)
def Smp (g : Gr) (L : Nat → Bool) (u : Nat) : Prop := ∀ p q, L p = true → L q = true → g u p = true → g u q = true → p ≠ q → g p q = true
def Tl (g : Gr) (L : Nat → Bool) (v : Nat) : Nat → Bool := fun z => L z && !g v z && !decide (z = v)
def NCL (g : Gr) (L : Nat → Bool) : Prop := ∀ v x y, L v = true → L x = true → L y = true → g v x = true → g v y = true → g x y = false → y ≠ x → ¬ RS g (Tl g L v) x y
theorem Tl_iff {g : Gr} {L : Nat → Bool} {v z : Nat} : Tl g L v z = true ↔ L z = true ∧ g v z = false ∧ z ≠ v := by
  unfold Tl
  simp only [Bool.and_eq_true, Bool.not_eq_true', decide_eq_false_iff_not, and_assoc]
theorem NCL.sub {g : Gr} {L H : Nat → Bool} (h : NCL g L) (hs : ∀ z, H z = true → L z = true) : NCL g H := fun v x y h1 h2 h3 h4 h5 h6 h7 hr => h v x y (hs v h1) (hs x h2) (hs y h3) h4 h5 h6 h7 (hr.mono (fun z hz => by
  obtain ⟨q1, q2, q3⟩ := Tl_iff.mp hz
  exact Tl_iff.mpr ⟨hs z q1, q2, q3⟩))
section DI
variable {g : Gr} {n : Nat}
theorem dirac (hsy : ∀ x y, g x y = g y x) (hir : ∀ x, g x x = false) : ∀ (m : Nat) (L : Nat → Bool), (∀ z, L z = true → z < n) → fb_ct L n ≤ m → NCL g L → ∀ v y, L v = true → L y = true → v ≠ y → g v y = false → ∃ s, L s = true ∧ s ≠ v ∧ g v s = false ∧ Smp g L s := by
  intro m
  induction m with
  | zero =>
    intro L hL hm _ v y hv
    have : 0 < fb_ct L n := fb_ct_pos.mpr ⟨v, hL v hv, hv⟩
    omega
  | succ m ih =>
    intro L hL hm hnc v y hv hy hvy hgy
    obtain ⟨T, hT⟩ : ∃ T : Nat → Bool, T = Tl g L v := ⟨_, rfl⟩
    have hTi : ∀ z, T z = true ↔ L z = true ∧ g v z = false ∧ z ≠ v := fun z => by rw [hT]; exact Tl_iff
    have hTy : T y = true := (hTi y).mpr ⟨hy, hgy, fun e => hvy e.symm⟩
    obtain ⟨C, hC⟩ : ∃ C : Nat → Prop, C = fun z => z = y ∨ (RS g T y z ∧ T z = true) := ⟨_, rfl⟩
    have hCi : ∀ z, C z ↔ z = y ∨ (RS g T y z ∧ T z = true) := fun z => by rw [hC]
    have hCT : ∀ z, C z → T z = true := fun z hz => by
      rcases (hCi z).mp hz with h | h
      · rw [h]; exact hTy
      · exact h.2
    obtain ⟨S, hS⟩ : ∃ S : Nat → Prop, S = fun s => L s = true ∧ g v s = true ∧ ∃ z, C z ∧ g z s = true := ⟨_, rfl⟩
    have hSi : ∀ s, S s ↔ L s = true ∧ g v s = true ∧ ∃ z, C z ∧ g z s = true := fun s => by rw [hS]
    obtain ⟨H, hH⟩ : ∃ H : Nat → Bool, H = fun z => pb (C z ∨ S z) := ⟨_, rfl⟩
    have hHi : ∀ z, H z = true ↔ C z ∨ S z := fun z => by rw [hH]; exact pb_iff
    have hHL : ∀ z, H z = true → L z = true ∧ z ≠ v := fun z hz => by
      rcases (hHi z).mp hz with h | h
      · have := (hTi z).mp (hCT z h)
        exact ⟨this.1, this.2.2⟩
      · have := (hSi z).mp h
        refine ⟨this.1, fun e => ?_⟩
        have h2 := this.2.1
        rw [e, hir] at h2; cases h2
    have hHn : ∀ z, H z = true → z < n := fun z hz => hL z (hHL z hz).1
    have hlt : fb_ct H n < fb_ct L n := ct_less (hL v hv) (fun k _ hk => (hHL k hk).1) (by
      cases h : H v with
      | false => rfl
      | true => exact absurd rfl (hHL v h).2) hv
    have hncH : NCL g H := hnc.sub (fun z hz => (hHL z hz).1)
    have near : ∀ z t, C z → L t = true → g z t = true → H t = true := fun z t hz ht hzt => by
      rw [hHi]
      by_cases hTt : T t = true
      · left
        rw [hCi]
        right
        refine ⟨?_, hTt⟩
        rcases (hCi z).mp hz with h | h
        · rw [h] at hzt; exact RS.one hzt
        · exact h.1.more h.2 hzt
      · right
        rw [hSi]
        refine ⟨ht, ?_, z, hz, hzt⟩
        cases hvt : g v t with
        | true => rfl
        | false =>
          exfalso
          by_cases e : t = v
          · rw [e] at hzt
            have := ((hTi z).mp (hCT z hz)).2.1
            rw [hsy, hzt] at this; cases this
          · exact hTt ((hTi t).mpr ⟨ht, hvt, e⟩)
    have toY : ∀ s, S s → RS g T s y := fun s hs => by
      obtain ⟨-, -, z, hz, hzs⟩ := (hSi s).mp hs
      have h1 : RS g T s z := RS.one (by rw [hsy]; exact hzs)
      rcases (hCi z).mp hz with h | h
      · rw [h] at h1; exact h1
      · exact h1.trans h.2 (h.1.symm hsy)
    have clique : ∀ s t, S s → S t → s ≠ t → g s t = true := fun s t hs ht hst => by
      cases hg : g s t with
      | true => rfl
      | false =>
        exfalso
        have s1 := (hSi s).mp hs
        have t1 := (hSi t).mp ht
        refine hnc v s t hv s1.1 t1.1 s1.2.1 t1.2.1 hg (fun e => hst e.symm) ?_
        rw [← hT]
        exact (toY s hs).trans hTy ((toY t ht).symm hsy)
    have good : ∀ s, C s → Smp g H s → ∃ s, L s = true ∧ s ≠ v ∧ g v s = false ∧ Smp g L s := fun s hs hsm => by
      have := (hTi s).mp (hCT s hs)
      exact ⟨s, this.1, this.2.2, this.2.1, fun p q hp hq h1 h2 h3 => hsm p q (near s p hs hp h1) (near s q hs hq h2) h1 h2 h3⟩
    by_cases hall : ∀ p q, H p = true → H q = true → p ≠ q → g p q = true
    · exact good y ((hCi y).mpr (Or.inl rfl)) (fun p q hp hq _ _ h3 => hall p q hp hq h3)
    · have hex : ∃ p q, H p = true ∧ H q = true ∧ p ≠ q ∧ g p q = false := by
        apply Classical.byContradiction
        intro hc
        apply hall
        intro p q hp hq hpq
        cases hg : g p q with
        | true => rfl
        | false => exact absurd ⟨p, q, hp, hq, hpq, hg⟩ hc
      obtain ⟨p, q, hp, hq, hpq, hgpq⟩ := hex
      obtain ⟨s1, h1, h2, h3, h4⟩ := ih H hHn (by omega) hncH p q hp hq hpq hgpq
      rcases (hHi s1).mp h1 with hc1 | hs1
      · exact good s1 hc1 h4
      · obtain ⟨s2, k1, k2, k3, k4⟩ := ih H hHn (by omega) hncH s1 p h1 hp h2 (by rw [hsy]; exact h3)
        rcases (hHi s2).mp k1 with hc2 | hs2
        · exact good s2 hc2 k4
        · have := clique s1 s2 hs1 hs2 (fun e => k2 e.symm)
          rw [k3] at this; cases this
theorem smp_ex (hsy : ∀ x y, g x y = g y x) (hir : ∀ x, g x x = false) {L : Nat → Bool} (hL : ∀ z, L z = true → z < n) (hnc : NCL g L) (hne : ∃ u, L u = true) : ∃ u, L u = true ∧ Smp g L u := by
  by_cases hall : ∀ p q, L p = true → L q = true → p ≠ q → g p q = true
  · obtain ⟨u, hu⟩ := hne
    exact ⟨u, hu, fun p q hp hq _ _ h => hall p q hp hq h⟩
  · have hex : ∃ p q, L p = true ∧ L q = true ∧ p ≠ q ∧ g p q = false := by
      apply Classical.byContradiction
      intro hc
      apply hall
      intro p q hp hq hpq
      cases hg : g p q with
      | true => rfl
      | false => exact absurd ⟨p, q, hp, hq, hpq, hg⟩ hc
    obtain ⟨p, q, hp, hq, hpq, hgpq⟩ := hex
    obtain ⟨s, h1, -, -, h4⟩ := dirac hsy hir (fb_ct L n) L hL (Nat.le_refl _) hnc p q hp hq hpq hgpq
    exact ⟨s, h1, h4⟩
theorem RS.first {S : Nat → Bool} {x y : Nat} (h : RS g S x y) : ∃ z, g x z = true ∧ (z = y ∨ (S z = true ∧ RS g S z y)) := h (fun w => ∃ z, g x z = true ∧ (z = w ∨ (S z = true ∧ RS g S z w))) (fun w hw => ⟨w, hw, Or.inl rfl⟩) (fun z w ⟨t, h1, h2⟩ hz hw => ⟨t, h1, Or.inr (by
  rcases h2 with h2 | ⟨h2, h3⟩
  · rw [h2]; exact ⟨hz, RS.one hw⟩
  · exact ⟨h2, h3.more hz hw⟩)⟩)
theorem RS.last {S : Nat → Bool} {x y : Nat} (h : RS g S x y) : ∃ w, (w = x ∨ (RS g S x w ∧ S w = true)) ∧ g w y = true := h (fun t => ∃ w, (w = x ∨ (RS g S x w ∧ S w = true)) ∧ g w t = true) (fun t ht => ⟨x, Or.inl rfl, ht⟩) (fun z t ⟨w, h1, h2⟩ hz ht => ⟨z, Or.inr ⟨by
  rcases h1 with h1 | ⟨h1, h3⟩
  · rw [h1] at h2; exact RS.one h2
  · exact h1.more h3 h2, hz⟩, ht⟩)
/-- one whose NEIGHBOURS are all JOINED may go: RINGS stay -/
theorem ncl_off (hsy : ∀ x y, g x y = g y x) (hir : ∀ x, g x x = false) {L : Nat → Bool} {u : Nat} (hu : L u = true) (hsm : Smp g L u) : NCL g L ↔ NCL g (fun z => L z && !decide (z = u)) := by
  have hL' : ∀ z, (L z && !decide (z = u)) = true ↔ L z = true ∧ z ≠ u := fun z => by
    simp only [Bool.and_eq_true, Bool.not_eq_true', decide_eq_false_iff_not]
  constructor
  · exact fun h => h.sub (fun z hz => ((hL' z).mp hz).1)
  · intro h v x y hv hx hy hvx hvy hxy hyx hr
    have edge : ∀ x y, L x = true → L y = true → g v x = true → g x y = false → RS g (Tl g L v) x y → x ≠ u := fun x y hx hy hvx hxy hr e => by
      obtain ⟨z, h1, h2⟩ := hr.first
      rcases h2 with h2 | ⟨h2, -⟩
      · rw [h2, hxy] at h1; cases h1
      · obtain ⟨q1, q2, q3⟩ := Tl_iff.mp h2
        rw [e] at h1 hvx
        have := hsm v z hv q1 (by rw [hsy]; exact hvx) h1 (fun e => q3 e.symm)
        rw [q2] at this; cases this
    by_cases huv : v = u
    · rw [huv] at hvx hvy
      have := hsm x y hx hy hvx hvy (fun e => hyx e.symm)
      rw [hxy] at this; cases this
    have hxu : x ≠ u := edge x y hx hy hvx hxy hr
    have hyu : y ≠ u := edge y x hy hx hvy (by rw [hsy]; exact hxy) (hr.symm hsy)
    refine h v x y ((hL' v).mpr ⟨hv, huv⟩) ((hL' x).mpr ⟨hx, hxu⟩) ((hL' y).mpr ⟨hy, hyu⟩) hvx hvy hxy hyx ?_
    obtain ⟨S', hS'⟩ : ∃ S' : Nat → Bool, S' = Tl g (fun z => L z && !decide (z = u)) v := ⟨_, rfl⟩
    have hSi : ∀ z, S' z = true ↔ (L z = true ∧ z ≠ u) ∧ g v z = false ∧ z ≠ v := fun z => by
      rw [hS', Tl_iff, hL' z]
    rw [← hS']
    by_cases hTu : Tl g L v u = true
    · have hT : ∀ z, Tl g L v z = (S' z || decide (z = u)) := fun z => by
        rw [Bool.eq_iff_iff, Bool.or_eq_true, decide_eq_true_eq, hSi z, Tl_iff]
        constructor
        · rintro ⟨q1, q2, q3⟩
          by_cases e : z = u
          · exact Or.inr e
          · exact Or.inl ⟨⟨q1, e⟩, q2, q3⟩
        · rintro (⟨⟨q1, -⟩, q2, q3⟩ | e)
          · exact ⟨q1, q2, q3⟩
          · rw [e]; exact Tl_iff.mp hTu
      rcases (rs_split hT).mp hr with hr | ⟨hr1, hr2⟩
      · exact hr
      · obtain ⟨w, hw, hwu⟩ := hr1.last
        have hwL : L w = true := by
          rcases hw with hw | hw
          · rw [hw]; exact hx
          · exact ((hSi w).mp hw.2).1.1
        have key : L y = true → (RS g S' w y ∨ y = w) := hr2 (fun t => L t = true → (RS g S' w t ∨ t = w)) (fun t ht htL => by
          by_cases e : t = w
          · exact Or.inr e
          · exact Or.inl (RS.one (hsm w t hwL htL (by rw [hsy]; exact hwu) ht (fun e2 => e e2.symm)))) (fun z t hz hzs hzt htL => by
          rcases hz ((hSi z).mp hzs).1.1 with h1 | h1
          · exact Or.inl (h1.more hzs hzt)
          · rw [h1] at hzt; exact Or.inl (RS.one hzt))
        rcases key hy with h1 | h1
        · rcases hw with hw | ⟨hw1, hw2⟩
          · rw [hw] at h1; exact h1
          · exact hw1.trans hw2 h1
        · rcases hw with hw | ⟨hw1, hw2⟩
          · exact absurd (h1.trans hw) hyx
          · rw [h1]; exact hw1
    · refine hr.mono (fun z hz => ?_)
      obtain ⟨q1, q2, q3⟩ := Tl_iff.mp hz
      refine (hSi z).mpr ⟨⟨q1, fun e => hTu (by rw [← e]; exact hz)⟩, q2, q3⟩
end DI
