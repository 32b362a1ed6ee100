/-! ===== THE CONSTRUCTORS' LAYER: an object under construction (its root), and the cells that are made already ===== -/
def mP (D : va_G) (ws : va_W) (H : Heap) : Prop := ∀ x ∈ ws, va_at D jCl x H
def mD (A : Nat → Prop) (ws : va_W) : Prop := (ws.map Prod.fst).Nodup ∧ ∀ x ∈ ws, A x.1
theorem mP.to {D : va_G} {ws : va_W} {H : Heap} (h : mP D ws H) : va_P D jCl ws H := fun k q hk => h q (List.mem_of_getElem? hk)
theorem mP.of {D : va_G} {ws : va_W} {H : Heap} (h : va_P D jCl ws H) : mP D ws H := fun x hx => by
  obtain ⟨k, hk, e⟩ := List.getElem_of_mem hx
  exact h k x (by rw [List.getElem?_eq_getElem hk, e])
theorem mD.to {A : Nat → Prop} {ws : va_W} (h : mD A ws) : va_D A ws := by
  refine ⟨fun i j p q hi hj e => ?_, fun k q hk => h.2 q (List.mem_of_getElem? hk)⟩
  have h1 : (ws.map Prod.fst)[i]? = some p.1 := by rw [List.getElem?_map, hi]; rfl
  have h2 : (ws.map Prod.fst)[j]? = some q.1 := by rw [List.getElem?_map, hj]; rfl
  exact (List.getElem?_inj (List.getElem?_eq_some_iff.mp h1).1 h.1).mp (by rw [h1, h2, e])
theorem mD.of {A : Nat → Prop} {ws : va_W} (h : va_D A ws) : mD A ws := by
  refine ⟨?_, fun x hx => ?_⟩
  · rw [List.nodup_iff_pairwise_ne, List.pairwise_iff_getElem]
    intro i j hi hj hij e
    rw [List.length_map] at hi hj
    rw [List.getElem_map, List.getElem_map] at e
    exact absurd (h.1 i j ws[i] ws[j] (List.getElem?_eq_getElem hi) (List.getElem?_eq_getElem hj) e) (by omega)
  · obtain ⟨k, hk, e⟩ := List.getElem_of_mem hx
    exact h.2 k x (by rw [List.getElem?_eq_getElem hk, e])
theorem mP.sub {D : va_G} {ws ws' : va_W} {H : Heap} (h : mP D ws H) (hs : ∀ x ∈ ws', x ∈ ws) : mP D ws' H := fun x hx => h x (hs x hx)
theorem mD.perm {A : Nat → Prop} {ws ws' : va_W} (h : mD A ws) (hp : ws.Perm ws') : mD A ws' := ⟨(hp.map _).nodup_iff.mp h.1, fun x hx => h.2 x (hp.mem_iff.mpr hx)⟩
/-- the memory of the fresh objects -/
def jI0 : jM := fun i k => if jk i = 3 ∧ k = 0 then 32749 else if jk i = 4 ∧ k = 2 then 1 else if jk i = 6 ∧ k = 2 then 1 else if jk i = 8 ∧ k = 4 then 1 else if jk i = 9 ∧ k = 5 then (-1) else if jk i = 11 ∧ k = 0 then 1 else if jk i = 11 ∧ k = 1 then 32749 else if jk i = 11 ∧ k = 13 then (-1) else if jk i = 11 ∧ k = 19 then (-9) else 0
/-- each cell of the list refers to cells of the list alone -/
def jclo (Ls : List Nat) : Prop := ∀ j ∈ Ls, (∀ k, k < jn (jk j) → jq (jk j) k = true → jr j k ∈ Ls) ∧ (jk j = 1002 → ∀ k, k < jl j → jw j k ∈ Ls)
theorem jcell_ad {g : ClassId × ClassId × ClassId} {ad ad' : Nat → Nat} {Ls : List Nat} (hc : jclo Ls) (ha : ∀ j ∈ Ls, ad' j = ad j) {j : Nat} (hj : j ∈ Ls) {I : jM} : jcell g ad' j I = jcell g ad j I := by
  obtain ⟨h1, h2⟩ := hc j hj
  unfold jcell
  split
  · rfl
  · split
    · rfl
    · split
      · rename_i hk
        congr 7
        funext k
        by_cases hl : k < jl j
        · rw [if_pos hl, if_pos hl, ha _ (h2 hk k hl)]
        · rw [if_neg hl, if_neg hl]
      · congr 2
        unfold jfs
        apply List.map_congr_left
        intro k hk
        by_cases hq : jq (jk j) k = true
        · rw [if_pos hq, if_pos hq, ha _ (h1 k (List.mem_range.mp hk) hq)]
        · rw [if_neg hq, if_neg hq]
theorem jworld_ad {D : va_G} {g : ClassId × ClassId × ClassId} {ad ad' : Nat → Nat} {Ls : List Nat} (hc : jclo Ls) (ha : ∀ j ∈ Ls, ad' j = ad j) (I : jM) : jworld (D, g, ad', Ls) I = jworld (D, g, ad, Ls) I := by
  unfold jworld
  apply List.map_congr_left
  intro j hj
  show (ad' j, _) = (ad j, _)
  rw [ha j hj, jcell_ad hc ha hj]
theorem jworld_app {D : va_G} {g : ClassId × ClassId × ClassId} {ad : Nat → Nat} {Ls Lc : List Nat} (I : jM) : jworld (D, g, ad, Ls ++ Lc) I = jworld (D, g, ad, Ls) I ++ jworld (D, g, ad, Lc) I := List.map_append
/-- the root's fields when those of the list 'done' are set -/
def jfp (ad : Nat → Nat) (r : Nat) (done : List Nat) : List Value := (List.range (jn (jk r))).map (fun k => if jq (jk r) k = true then (if k ∈ done then Value.ref (ad (jr r k)) else Value.null) else Value.int (if k ∈ done then jI0 r k else 0))
theorem jfp_ad {ad ad' : Nat → Nat} {r : Nat} {done Ls : List Nat} (hd : ∀ k ∈ done, jq (jk r) k = true → jr r k ∈ Ls) (ha : ∀ j ∈ Ls, ad' j = ad j) : jfp ad' r done = jfp ad r done := by
  unfold jfp
  apply List.map_congr_left
  intro k _
  by_cases hq : jq (jk r) k = true
  · rw [if_pos hq, if_pos hq]
    by_cases hk : k ∈ done
    · rw [if_pos hk, if_pos hk, ha _ (hd k hk hq)]
    · rw [if_neg hk, if_neg hk]
  · rw [if_neg hq, if_neg hq]
theorem jfp_len (ad : Nat → Nat) (r : Nat) (done : List Nat) : (jfp ad r done).length = jn (jk r) := by
  unfold jfp; rw [List.length_map, List.length_range]
theorem jfp_get (ad : Nat → Nat) (r : Nat) (done : List Nat) {k : Nat} (hk : k < jn (jk r)) : (jfp ad r done)[k]? = some (if jq (jk r) k = true then (if k ∈ done then Value.ref (ad (jr r k)) else Value.null) else Value.int (if k ∈ done then jI0 r k else 0)) := by
  unfold jfp; rw [List.getElem?_map, List.getElem?_range hk]; rfl
theorem jfp_set {ad : Nat → Nat} {r : Nat} {done : List Nat} {k : Nat} {v : Value} (hk : k < jn (jk r)) (hv : v = if jq (jk r) k = true then Value.ref (ad (jr r k)) else Value.int (jI0 r k)) : (jfp ad r done).set k v = jfp ad r (k :: done) := by
  subst hv
  apply List.ext_getElem?
  intro n
  rw [List.getElem?_set]
  by_cases hn : k = n
  · subst hn
    rw [if_pos rfl, if_pos (by rw [jfp_len]; exact hk), jfp_get _ _ _ hk]
    simp
  · rw [if_neg hn]
    by_cases hl : n < jn (jk r)
    · rw [jfp_get _ _ _ hl, jfp_get _ _ _ hl]
      have e : (n ∈ k :: done) ↔ n ∈ done := by simp [Ne.symm hn]
      simp only [e]
    · rw [List.getElem?_eq_none (by rw [jfp_len]; omega), List.getElem?_eq_none (by rw [jfp_len]; omega)]
theorem jfp_full {ad : Nat → Nat} {r : Nat} {done : List Nat} (h : ∀ k, k < jn (jk r) → k ∈ done ∨ (jq (jk r) k = false ∧ jI0 r k = 0)) : jfp ad r done = jfs ad r jI0 := by
  unfold jfp jfs
  apply List.map_congr_left
  intro k hk
  rcases h k (List.mem_range.mp hk) with hd | ⟨h1, h2⟩
  · rw [if_pos hd, if_pos hd]
  · rw [h1, h2]; simp
/-- words by which a nest mate's constructor is called -/
def jnm : List Cond := [Cond.methodLinkNest "OutOrder" 11 ⟨"OutOrder$Table", "<init>", "()V"⟩ "OutOrder", Cond.methodLinkNest "OutOrder$Table" 11 ⟨"OutOrder$Modulus", "<init>", "()V"⟩ "OutOrder", Cond.methodLinkNest "OutOrder" 18 ⟨"OutOrder$Row", "<init>", "()V"⟩ "OutOrder", Cond.methodLinkNest "OutOrder" 25 ⟨"OutOrder$Rules", "<init>", "()V"⟩ "OutOrder", Cond.methodLinkNest "OutOrder$Rules" 11 ⟨"OutOrder$Net", "<init>", "()V"⟩ "OutOrder", Cond.methodLinkNest "OutOrder" 32 ⟨"OutOrder$Least", "<init>", "()V"⟩ "OutOrder", Cond.methodLinkNest "OutOrder$Least" 25 ⟨"OutOrder$Net", "<init>", "()V"⟩ "OutOrder", Cond.methodLinkNest "OutOrder" 39 ⟨"OutOrder$FullNet", "<init>", "()V"⟩ "OutOrder", Cond.methodLinkNest "OutOrder$FullNet" 11 ⟨"OutOrder$Net", "<init>", "()V"⟩ "OutOrder", Cond.methodLinkNest "OutOrder" 46 ⟨"OutOrder$Going", "<init>", "()V"⟩ "OutOrder", Cond.methodLinkNest "OutOrder$Going" 11 ⟨"OutOrder$Net", "<init>", "()V"⟩ "OutOrder", Cond.methodLinkNest "OutOrder" 53 ⟨"OutOrder$Work", "<init>", "()V"⟩ "OutOrder", Cond.methodLinkNest "OutOrder" 60 ⟨"OutOrder$Plan", "<init>", "()V"⟩ "OutOrder"]
def jnmq : Cond → Bool
  | .methodLinkNest _ _ _ _ => true
  | _ => false
theorem jnm_ok : jnm.all jnmq = true := by decide +kernel
theorem jnm_in : ∀ w ∈ jnm, w ∈ lw_tbl := by
  have h : jnm.all (fun w => decide (w ∈ tables_1)) = true := by decide +kernel
  intro w hw
  exact List.mem_append_right _ (of_decide_eq_true (List.all_eq_true.mp h w hw))
def jNm (U : State) : Prop := ∀ w ∈ jnm, va_Nw w U
theorem jNm.same {u U : State} (h : u.vm = U.vm) (H : jNm u) : jNm U := fun w hw => by
  have h2 := List.all_eq_true.mp jnm_ok w hw
  have h3 := H w hw
  cases w <;> first | exact va_Nw.same rfl h h3 | (exfalso; revert h2; simp [jnmq])
theorem jNm.warm {u U : State} (h : u.WarmedH U.vm) (H : jNm u) : jNm U := fun w hw => by
  have h2 := List.all_eq_true.mp jnm_ok w hw
  have h3 := H w hw
  cases w <;> first | exact va_Nw.warmM h h3 | (exfalso; revert h2; simp [jnmq])
/-- the array class of int[][]: its component is int[] -/
def jG (g : ClassId × ClassId × ClassId) (U : State) : Prop := U.vm.findClass "[[I" = some g.2.2 ∧ (∃ k : Class, U.vm.classes[g.2.2]? = some k ∧ k.kind = .array g.1 (.array .int)) ∧ ∃ (k : Class) (c0 : ClassId), U.vm.classes[g.1]? = some k ∧ k.kind = .array c0 .int
theorem jG.moved {g : ClassId × ClassId × ClassId} {u U : State} (h : u.vm.Alike U.vm) (H : jG g u) : jG g U := by
  obtain ⟨h1, ⟨k, h2, h3⟩, k2, c0, h4, h5⟩ := H
  obtain ⟨k', e1, e2⟩ := h.2.2 _ _ h2
  obtain ⟨k2', e3, e4⟩ := h.2.2 _ _ h4
  exact ⟨by rw [h.findClass]; exact h1, ⟨k', e1, by rw [e2]; exact h3⟩, k2', c0, e3, by rw [e4]; exact h5⟩
def cK (D : va_G) (g : ClassId × ClassId × ClassId) (U : State) : Prop := va_K D jCl (jtys (D, g, id, [])) U ∧ jN U ∧ jNm U ∧ jG g U
theorem cK.warm {D g} {u U : State} (h : u.WarmedH U.vm) (H : cK D g u) : cK D g U := ⟨va_K.moved h.alike H.1, H.2.1.warm h, H.2.2.1.warm h, H.2.2.2.moved h.alike⟩
theorem cK.same {D g} {u U : State} (h : u.vm = U.vm) (H : cK D g u) : cK D g U := ⟨va_K.moved (h ▸ Vm.Alike.refl u.vm) H.1, H.2.1.same h, H.2.2.1.same h, H.2.2.2.moved (h ▸ Vm.Alike.refl u.vm)⟩
def cA (h0 sz : Nat) : Nat → Prop := fun q => q = h0 ∨ sz ≤ q
/-- the world of a construction: the root, what is begun, the cells that are made -/
def cw (g : ClassId × ClassId × ClassId) (D : va_G) (r h0 : Nat) (done : List Nat) (xt : va_W) (ad : Nat → Nat) (Ls : List Nat) : va_W := (h0, .inr (jk r, jfp ad r done)) :: (xt ++ jworld (D, g, ad, Ls) jI0)
def cC (Z : jZ) (D : va_G) (g : ClassId × ClassId × ClassId) (A : Nat → Prop) (cc : ByteArray) (own : String) (fR lR mc ms : Nat) : Prop :=
  (jZp Z).tables.exec = Jvm.exec ∧ (jZc Z).code = cc ∧ (jZc Z).maxLocals = 1 ∧ (jZs Z).vm.findClass own = some (jZm Z).cls ∧ (∀ w ∈ jtbl, w.before (jZa Z) (jZs Z) = true) ∧ cK D g (jZs Z) ∧ (jZh Z).name = "<init>" ∧ (jZh Z).locks = false ∧ fR ≤ (jZR Z).frames ∧ lR ≤ (jZR Z).locals ∧ mc ≤ (jZR Z).cells ∧ ms ≤ (jZR Z).slots ∧ (∀ q, (jZs Z).heap.size ≤ q → A q) ∧ (jZh Z).sig.returnType = none
def cJ (Z : jZ) (D : va_G) (g : ClassId × ClassId × ClassId) (A : Nat → Prop) (kc ks : Nat) (Q : State → Prop) (pc r h0 : Nat) (done : List Nat) (xt : va_W) (ad : Nat → Nat) (Ls : List Nat) (st : List Value) : Prop :=
  ∀ (ls : Array Slot) (H : Heap) (locs : List Loc), lv_has ls 1 [(0, .ref h0)] → mP D (cw g D r h0 done xt ad Ls) H → mD A (cw g D r h0 done xt ad Ls) → va_S A (jZs Z).heap H locs → W (jZp Z) (jZl Z) (jZe Z) (jZR Z) (jZs Z) (jZm Z) (jZa Z) (jZb Z) (jZh Z) (jZc Z) H locs kc ks Q (F0 (jZm Z) pc ls st)
