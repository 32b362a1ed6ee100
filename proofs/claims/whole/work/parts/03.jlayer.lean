/-! ===== THE J LAYER: a method of this system over a memory of numbers alone. No call of the landed class makes a cell: every reference is known by the layout (jr, jw), so a state is: which int stands at place k of cell i ===== -/
abbrev jM : Type := Nat → Nat → Int32
/-- I, but v at place k of cell i -/
def jwr (I : jM) (i k : Nat) (v : Int32) : jM := fun a => if a = i then upd (I a) k v else I a
theorem jwr_same (I : jM) (i k : Nat) (v : Int32) : jwr I i k v i = upd (I i) k v := if_pos rfl
theorem jwr_ne {I : jM} {i k : Nat} {v : Int32} {a : Nat} (h : a ≠ i) : jwr I i k v a = I a := if_neg h
/-- I, but the row f in cell i -/
def jrow (I : jM) (i : Nat) (f : Nat → Int32) : jM := fun a => if a = i then f else I a
theorem jrow_same (I : jM) (i : Nat) (f : Nat → Int32) : jrow I i f i = f := if_pos rfl
theorem jrow_ne {I : jM} {i : Nat} {f : Nat → Int32} {a : Nat} (h : a ≠ i) : jrow I i f a = I a := if_neg h
/-- slots, array classes (int[], boolean[], int[][]), addresses, cells -/
abbrev jE : Type := va_G × (ClassId × ClassId × ClassId) × (Nat → Nat) × List Nat
def jfs (ad : Nat → Nat) (i : Nat) (I : jM) : List Value := (List.range (jn (jk i))).map (fun k => if jq (jk i) k = true then Value.ref (ad (jr i k)) else Value.int (I i k))
def jcell (g : ClassId × ClassId × ClassId) (ad : Nat → Nat) (i : Nat) (I : jM) : va_E :=
  if jk i = 1000 then .inl (g.1, jl i, .inl (I i))
  else if jk i = 1001 then .inl (g.2.1, jl i, .inl (I i))
  else if jk i = 1002 then .inl (g.2.2, jl i, .inr (.inr (.inr (.inr (fun j => if j < jl i then some (ad (jw i j)) else none)))))
  else .inr (jk i, jfs ad i I)
theorem jcell_congr {g : ClassId × ClassId × ClassId} {ad : Nat → Nat} {i : Nat} {I I' : jM} (h : I i = I' i) : jcell g ad i I = jcell g ad i I' := by
  unfold jcell jfs; rw [h]
def jworld (E : jE) (I : jM) : va_W := E.2.2.2.map (fun i => (E.2.2.1 i, jcell E.2.1 E.2.2.1 i I))
def jtys (E : jE) : List (ClassId × FieldType) := [(E.2.1.1, .int), (E.2.1.2.1, .boolean), (E.2.1.2.2, .array .int)]
def jA (E : jE) : Nat → Prop := fun q => ∃ i, i ∈ E.2.2.2 ∧ E.2.2.1 i = q
def jOK (E : jE) : Prop := E.2.2.2.Nodup ∧ ∀ i ∈ E.2.2.2, ∀ j ∈ E.2.2.2, E.2.2.1 i = E.2.2.1 j → i = j
def jN (U : State) : Prop := ∀ w ∈ jnst, va_Nw w U
theorem jN.same {u U : State} (h : u.vm = U.vm) (H : jN u) : jN U := fun w hw => by
  have h2 := List.all_eq_true.mp jnst_ok w hw
  have h3 := H w hw
  cases w <;> first | exact va_Nw.same rfl h h3 | (exfalso; revert h2; simp [jnq])
theorem jN.warm {u U : State} (h : u.WarmedH U.vm) (H : jN u) : jN U := fun w hw => by
  have h2 := List.all_eq_true.mp jnst_ok w hw
  have h3 := H w hw
  cases w <;> first | exact va_Nw.warmF h h3 | (exfalso; revert h2; simp [jnq])
theorem jworld_get {E : jE} {I : jM} {q i : Nat} (h : E.2.2.2[q]? = some i) : (jworld E I)[q]? = some (E.2.2.1 i, jcell E.2.1 E.2.2.1 i I) := by
  unfold jworld; rw [List.getElem?_map, h]; rfl
theorem jworld_inv {E : jE} {I : jM} {q : Nat} {x : Nat × va_E} (h : (jworld E I)[q]? = some x) : ∃ i, E.2.2.2[q]? = some i ∧ x = (E.2.2.1 i, jcell E.2.1 E.2.2.1 i I) := by
  unfold jworld at h
  rw [List.getElem?_map] at h
  cases hq : E.2.2.2[q]? with
  | none => rw [hq] at h; cases h
  | some i => rw [hq] at h; exact ⟨i, rfl, (Option.some.inj h).symm⟩
theorem jmem_get {L : List Nat} {i : Nat} (h : i ∈ L) : ∃ q : Nat, L[q]? = some i := by
  obtain ⟨q, hq, e⟩ := List.getElem_of_mem h
  exact ⟨q, by rw [List.getElem?_eq_getElem hq, e]⟩
theorem jworld_D {E : jE} (h : jOK E) (I : jM) : va_D (jA E) (jworld E I) := by
  refine ⟨fun i j p q hi hj hpq => ?_, fun k q hk => ?_⟩
  · obtain ⟨a, ha, rfl⟩ := jworld_inv hi
    obtain ⟨b, hb, rfl⟩ := jworld_inv hj
    have hab := h.2 a (List.mem_of_getElem? ha) b (List.mem_of_getElem? hb) hpq
    subst hab
    exact (List.getElem?_inj (List.getElem?_eq_some_iff.mp ha).1 h.1).mp (ha.trans hb.symm)
  · obtain ⟨a, ha, rfl⟩ := jworld_inv hk
    exact ⟨a, List.mem_of_getElem? ha, rfl⟩
/-- one cell written: the world of the new memory -/
theorem jworld_set {E : jE} (h : jOK E) {I I' : jM} {q i : Nat} (hq : E.2.2.2[q]? = some i) (ho : ∀ a, a ≠ i → I' a = I a) {x : va_E} (hx : x = jcell E.2.1 E.2.2.1 i I') : (jworld E I).set q (E.2.2.1 i, x) = jworld E I' := by
  subst hx
  apply List.ext_getElem?
  intro n
  rw [List.getElem?_set]
  by_cases hn : q = n
  · subst hn
    have hl : q < (jworld E I).length := by
      unfold jworld; rw [List.length_map]; exact (List.getElem?_eq_some_iff.mp hq).1
    rw [if_pos rfl, if_pos hl, jworld_get hq]
  · rw [if_neg hn]
    unfold jworld
    rw [List.getElem?_map, List.getElem?_map]
    cases hb : E.2.2.2[n]? with
    | none => rfl
    | some b =>
      have hne : b ≠ i := fun e => by
        subst e
        exact hn ((List.getElem?_inj (List.getElem?_eq_some_iff.mp hq).1 h.1).mp (hq.trans hb.symm))
      show some (E.2.2.1 b, jcell E.2.1 E.2.2.1 b I) = some (E.2.2.1 b, jcell E.2.1 E.2.2.1 b I')
      rw [jcell_congr (ho b hne)]
theorem jcell_int {g : ClassId × ClassId × ClassId} {ad : Nat → Nat} {i : Nat} {I : jM} (h : jk i = 1000) : jcell g ad i I = .inl (g.1, jl i, .inl (I i)) := if_pos h
theorem jcell_boo {g : ClassId × ClassId × ClassId} {ad : Nat → Nat} {i : Nat} {I : jM} (h : jk i = 1001) : jcell g ad i I = .inl (g.2.1, jl i, .inl (I i)) := by
  unfold jcell; rw [if_neg (by rw [h]; decide), if_pos h]
theorem jcell_arr {g : ClassId × ClassId × ClassId} {ad : Nat → Nat} {i : Nat} {I : jM} (h : jk i = 1002) : jcell g ad i I = .inl (g.2.2, jl i, .inr (.inr (.inr (.inr (fun j => if j < jl i then some (ad (jw i j)) else none))))) := by
  unfold jcell; rw [if_neg (by rw [h]; decide), if_neg (by rw [h]; decide), if_pos h]
theorem jcell_obj {g : ClassId × ClassId × ClassId} {ad : Nat → Nat} {i ci : Nat} {I : jM} (h : jk i = ci) (h0 : ci ≠ 1000) (h1 : ci ≠ 1001) (h2 : ci ≠ 1002) : jcell g ad i I = .inr (ci, jfs ad i I) := by
  unfold jcell; subst h; rw [if_neg h0, if_neg h1, if_neg h2]
theorem jfs_len {ad : Nat → Nat} {i ci : Nat} {I : jM} (h : jk i = ci) : (jfs ad i I).length = jn ci := by
  unfold jfs; rw [List.length_map, List.length_range, h]
theorem jfs_get {ad : Nat → Nat} {i ci k : Nat} {I : jM} (h : jk i = ci) (hk : k < jn ci) : (jfs ad i I)[k]? = some (if jq ci k = true then Value.ref (ad (jr i k)) else Value.int (I i k)) := by
  subst h
  unfold jfs
  rw [List.getElem?_map, List.getElem?_range hk]
  rfl
theorem jfs_set {ad : Nat → Nat} {i ci k : Nat} {I : jM} {v : Int32} (h : jk i = ci) (hk : k < jn ci) (hq : jq ci k = false) : (jfs ad i I).set k (.int v) = jfs ad i (jwr I i k v) := by
  subst h
  apply List.ext_getElem?
  intro n
  rw [List.getElem?_set]
  by_cases hn : k = n
  · subst hn
    rw [if_pos rfl, if_pos (by rw [jfs_len rfl]; exact hk), jfs_get rfl hk, hq, jwr_same]
    simp [upd]
  · rw [if_neg hn]
    by_cases hl : n < jn (jk i)
    · rw [jfs_get rfl hl, jfs_get rfl hl, jwr_same]
      simp [upd, Ne.symm hn]
    · rw [List.getElem?_eq_none (by rw [jfs_len rfl]; omega), List.getElem?_eq_none (by rw [jfs_len rfl]; omega)]
/-- an object of class ci; an int array, a boolean array, an array of int arrays, of n places -/
def jOB (E : jE) (ci i : Nat) : Prop := i ∈ E.2.2.2 ∧ jk i = ci
def jAI (E : jE) (n i : Nat) : Prop := i ∈ E.2.2.2 ∧ jk i = 1000 ∧ jl i = n
def jAB (E : jE) (n i : Nat) : Prop := i ∈ E.2.2.2 ∧ jk i = 1001 ∧ jl i = n
def jAA (E : jE) (n i : Nat) : Prop := i ∈ E.2.2.2 ∧ jk i = 1002 ∧ jl i = n
/-- the machine at work: program, launch, environment, room, start, method, arguments, frames below, method's tables, code -/
abbrev jZ : Type := Program × Launch × Env × Room × State × MethodId × Array Value × List Frame × Method × Code
abbrev jZp (Z : jZ) : Program := Z.1
abbrev jZl (Z : jZ) : Launch := Z.2.1
abbrev jZe (Z : jZ) : Env := Z.2.2.1
abbrev jZR (Z : jZ) : Room := Z.2.2.2.1
abbrev jZs (Z : jZ) : State := Z.2.2.2.2.1
abbrev jZm (Z : jZ) : MethodId := Z.2.2.2.2.2.1
abbrev jZa (Z : jZ) : Array Value := Z.2.2.2.2.2.2.1
abbrev jZb (Z : jZ) : List Frame := Z.2.2.2.2.2.2.2.1
abbrev jZh (Z : jZ) : Method := Z.2.2.2.2.2.2.2.2.1
abbrev jZc (Z : jZ) : Code := Z.2.2.2.2.2.2.2.2.2
def jC (Z : jZ) (E : jE) (cc : ByteArray) (nL : Nat) (own : String) (fR lR : Nat) : Prop :=
  (jZp Z).tables.exec = Jvm.exec ∧ (jZc Z).code = cc ∧ (jZc Z).maxLocals = nL ∧ (jZs Z).vm.findClass own = some (jZm Z).cls ∧ (∀ w ∈ jtbl, w.before (jZa Z) (jZs Z) = true) ∧ va_K E.1 jCl (jtys E) (jZs Z) ∧ jN (jZs Z) ∧ jOK E ∧ (jZh Z).locks = false ∧ fR ≤ (jZR Z).frames ∧ lR ≤ (jZR Z).locals
theorem jC.x {Z E cc nL own fR lR} (C : jC Z E cc nL own fR lR) : (jZp Z).tables.exec = Jvm.exec := C.1
theorem jC.b {Z E cc nL own fR lR} (C : jC Z E cc nL own fR lR) : (jZc Z).code = cc := C.2.1
theorem jC.ml {Z E cc nL own fR lR} (C : jC Z E cc nL own fR lR) : (jZc Z).maxLocals = nL := C.2.2.1
theorem jC.own {Z E cc nL own fR lR} (C : jC Z E cc nL own fR lR) : (jZs Z).vm.findClass own = some (jZm Z).cls := C.2.2.2.1
theorem jC.ts {Z E cc nL own fR lR} (C : jC Z E cc nL own fR lR) : ∀ w ∈ jtbl, w.before (jZa Z) (jZs Z) = true := C.2.2.2.2.1
theorem jC.K {Z E cc nL own fR lR} (C : jC Z E cc nL own fR lR) : va_K E.1 jCl (jtys E) (jZs Z) := C.2.2.2.2.2.1
theorem jC.N {Z E cc nL own fR lR} (C : jC Z E cc nL own fR lR) : jN (jZs Z) := C.2.2.2.2.2.2.1
theorem jC.ok {Z E cc nL own fR lR} (C : jC Z E cc nL own fR lR) : jOK E := C.2.2.2.2.2.2.2.1
theorem jC.lk {Z E cc nL own fR lR} (C : jC Z E cc nL own fR lR) : (jZh Z).locks = false := C.2.2.2.2.2.2.2.2.1
theorem jC.fr {Z E cc nL own fR lR} (C : jC Z E cc nL own fR lR) : fR ≤ (jZR Z).frames := C.2.2.2.2.2.2.2.2.2.1
theorem jC.lo {Z E cc nL own fR lR} (C : jC Z E cc nL own fR lR) : lR ≤ (jZR Z).locals := C.2.2.2.2.2.2.2.2.2.2
/-- THE JUDGEMENT: at pc, with these locals, this stack and this memory, the machine comes to Q -/
def jJ (Z : jZ) (E : jE) (nL : Nat) (Q : State → Prop) (pc : Nat) (lv : List (Nat × Value)) (st : List Value) (I : jM) : Prop :=
  ∀ (ls : Array Slot) (H : Heap) (locs : List Loc), lv_has ls nL lv → va_P E.1 jCl (jworld E I) H → va_S (jA E) (jZs Z).heap H locs → W (jZp Z) (jZl Z) (jZe Z) (jZR Z) (jZs Z) (jZm Z) (jZa Z) (jZb Z) (jZh Z) (jZc Z) H locs 0 0 Q (F0 (jZm Z) pc ls st)
section JR
variable {Z : jZ} {E : jE} {cc : ByteArray} {nL : Nat} {own : String} {fR lR : Nat} {Q : State → Prop} {pc : Nat} {lv : List (Nat × Value)} {st : List Value} {I : jM}
theorem j_iconst (C : jC Z E cc nL own fR lR) {n : Int} {v : Int32} (d : decode cc pc = .ok (.iconst n, 1)) (hv : Int32.ofInt n = v) (h : jJ Z E nL Q (pc + 1) lv (.int v :: st) I) : jJ Z E nL Q pc lv st I := fun ls H locs hl hP hS => lv_iconst C.x C.b d hv (h ls H locs hl hP hS)
theorem j_bipush (C : jC Z E cc nL own fR lR) {n : Int} {v : Int32} (d : decode cc pc = .ok (.bipush n, 2)) (hv : (Int8.ofInt n).toInt32 = v) (h : jJ Z E nL Q (pc + 2) lv (.int v :: st) I) : jJ Z E nL Q pc lv st I := fun ls H locs hl hP hS => lv_bipush C.x C.b d hv (h ls H locs hl hP hS)
theorem j_sipush (C : jC Z E cc nL own fR lR) {n : Int} {v : Int32} (d : decode cc pc = .ok (.sipush n, 3)) (hv : (Int16.ofInt n).toInt32 = v) (h : jJ Z E nL Q (pc + 3) lv (.int v :: st) I) : jJ Z E nL Q pc lv st I := fun ls H locs hl hP hS => lv_sipush C.x C.b d hv (h ls H locs hl hP hS)
theorem j_ldcw (C : jC Z E cc nL own fR lR) {n : Nat} {v : Int32} (d : decode cc pc = .ok (.ldc_w n, 3)) (hw : Cond.constant own n v ∈ jtbl) (h : jJ Z E nL Q (pc + 3) lv (.int v :: st) I) : jJ Z E nL Q pc lv st I := fun ls H locs hl hP hS => lv_ldcw C.x C.b C.own (C.ts _ hw) d (h ls H locs hl hP hS)
theorem j_lconst (C : jC Z E cc nL own fR lR) {n : Fin 2} {v : Int64} (d : decode cc pc = .ok (.lconst n, 1)) (hv : Int64.ofNat (n : Nat) = v) (h : jJ Z E nL Q (pc + 1) lv (.long v :: st) I) : jJ Z E nL Q pc lv st I := fun ls H locs hl hP hS => lv_lconst C.x C.b d hv (h ls H locs hl hP hS)
theorem j_iload_n (C : jC Z E cc nL own fR lR) {k : Fin 4} {i : Nat} {x : Int32} (d : decode cc pc = .ok (.iload_n k, 1)) (hi : (k : Nat) = i) (n : Nat) (hn : lv[n]? = some (i, .int x)) (h : jJ Z E nL Q (pc + 1) lv (.int x :: st) I) : jJ Z E nL Q pc lv st I := fun ls H locs hl hP hS => lv_iload_n C.x C.b d hi (lv_at hl n hn) (h ls H locs hl hP hS)
theorem j_iload (C : jC Z E cc nL own fR lR) {i : Nat} {x : Int32} (d : decode cc pc = .ok (.iload i, 2)) (n : Nat) (hn : lv[n]? = some (i, .int x)) (h : jJ Z E nL Q (pc + 2) lv (.int x :: st) I) : jJ Z E nL Q pc lv st I := fun ls H locs hl hP hS => lv_iload C.x C.b d (lv_at hl n hn) (h ls H locs hl hP hS)
theorem j_lload_n (C : jC Z E cc nL own fR lR) {k : Fin 4} {i : Nat} {x : Int64} (d : decode cc pc = .ok (.lload_n k, 1)) (hi : (k : Nat) = i) (n : Nat) (hn : lv[n]? = some (i, .long x)) (h : jJ Z E nL Q (pc + 1) lv (.long x :: st) I) : jJ Z E nL Q pc lv st I := fun ls H locs hl hP hS => lv_lload_n C.x C.b d hi (lv_at hl n hn) (h ls H locs hl hP hS)
theorem j_lload (C : jC Z E cc nL own fR lR) {i : Nat} {x : Int64} (d : decode cc pc = .ok (.lload i, 2)) (n : Nat) (hn : lv[n]? = some (i, .long x)) (h : jJ Z E nL Q (pc + 2) lv (.long x :: st) I) : jJ Z E nL Q pc lv st I := fun ls H locs hl hP hS => lv_lload C.x C.b d (lv_at hl n hn) (h ls H locs hl hP hS)
theorem j_aload_n (C : jC Z E cc nL own fR lR) {k : Fin 4} {i : Nat} {x : Nat} (d : decode cc pc = .ok (.aload_n k, 1)) (hi : (k : Nat) = i) (n : Nat) (hn : lv[n]? = some (i, .ref x)) (h : jJ Z E nL Q (pc + 1) lv (.ref x :: st) I) : jJ Z E nL Q pc lv st I := fun ls H locs hl hP hS => lv_aload_n C.x C.b d hi (lv_at hl n hn) (h ls H locs hl hP hS)
theorem j_aload (C : jC Z E cc nL own fR lR) {i : Nat} {x : Nat} (d : decode cc pc = .ok (.aload i, 2)) (n : Nat) (hn : lv[n]? = some (i, .ref x)) (h : jJ Z E nL Q (pc + 2) lv (.ref x :: st) I) : jJ Z E nL Q pc lv st I := fun ls H locs hl hP hS => lv_aload C.x C.b d (lv_at hl n hn) (h ls H locs hl hP hS)
theorem j_istore_n (C : jC Z E cc nL own fR lR) {k : Fin 4} {i : Nat} {x : Int32} (d : decode cc pc = .ok (.istore_n k, 1)) (hi : (k : Nat) = i) (hn : i < nL) {lv' : List (Nat × Value)} (hl' : (i, Value.int x) :: lv.filter (fun q => !(q.1 == i) && !(q.1 + 1 == i && q.2.category == 2)) = lv') (h : jJ Z E nL Q (pc + 1) lv' st I) : jJ Z E nL Q pc lv (.int x :: st) I := fun ls H locs hl hP hS => lv_istore_n C.x C.b d hi hl hn hl' (fun ls' hl2 => h ls' H locs hl2 hP hS)
theorem j_istore (C : jC Z E cc nL own fR lR) {i : Nat} {x : Int32} (d : decode cc pc = .ok (.istore i, 2)) (hn : i < nL) {lv' : List (Nat × Value)} (hl' : (i, Value.int x) :: lv.filter (fun q => !(q.1 == i) && !(q.1 + 1 == i && q.2.category == 2)) = lv') (h : jJ Z E nL Q (pc + 2) lv' st I) : jJ Z E nL Q pc lv (.int x :: st) I := fun ls H locs hl hP hS => lv_istore C.x C.b d hl hn hl' (fun ls' hl2 => h ls' H locs hl2 hP hS)
theorem j_lstore_n (C : jC Z E cc nL own fR lR) {k : Fin 4} {i : Nat} {x : Int64} (d : decode cc pc = .ok (.lstore_n k, 1)) (hi : (k : Nat) = i) (hn : i + 1 < nL) {lv' : List (Nat × Value)} (hl' : (i, Value.long x) :: lv.filter (fun q => !(q.1 == i) && (!(q.1 == i + 1) && !(q.1 + 1 == i && q.2.category == 2))) = lv') (h : jJ Z E nL Q (pc + 1) lv' st I) : jJ Z E nL Q pc lv (.long x :: st) I := fun ls H locs hl hP hS => lv_lstore_n C.x C.b d hi hl hn hl' (fun ls' hl2 => h ls' H locs hl2 hP hS)
theorem j_lstore (C : jC Z E cc nL own fR lR) {i : Nat} {x : Int64} (d : decode cc pc = .ok (.lstore i, 2)) (hn : i + 1 < nL) {lv' : List (Nat × Value)} (hl' : (i, Value.long x) :: lv.filter (fun q => !(q.1 == i) && (!(q.1 == i + 1) && !(q.1 + 1 == i && q.2.category == 2))) = lv') (h : jJ Z E nL Q (pc + 2) lv' st I) : jJ Z E nL Q pc lv (.long x :: st) I := fun ls H locs hl hP hS => lv_lstore C.x C.b d hl hn hl' (fun ls' hl2 => h ls' H locs hl2 hP hS)
theorem j_astore_n (C : jC Z E cc nL own fR lR) {k : Fin 4} {i : Nat} {x : Nat} (d : decode cc pc = .ok (.astore_n k, 1)) (hi : (k : Nat) = i) (hn : i < nL) {lv' : List (Nat × Value)} (hl' : (i, Value.ref x) :: lv.filter (fun q => !(q.1 == i) && !(q.1 + 1 == i && q.2.category == 2)) = lv') (h : jJ Z E nL Q (pc + 1) lv' st I) : jJ Z E nL Q pc lv (.ref x :: st) I := fun ls H locs hl hP hS => lv_astore_n C.x C.b d hi hl hn hl' (fun ls' hl2 => h ls' H locs hl2 hP hS)
theorem j_iinc (C : jC Z E cc nL own fR lR) {i : Nat} {n : Int} {x v : Int32} (d : decode cc pc = .ok (.iinc i n, 3)) (k : Nat) (hk : lv[k]? = some (i, .int x)) (hv : x + Int32.ofInt n = v) (hn : i < nL) {lv' : List (Nat × Value)} (hl' : (i, Value.int v) :: lv.filter (fun q => !(q.1 == i) && !(q.1 + 1 == i && q.2.category == 2)) = lv') (h : jJ Z E nL Q (pc + 3) lv' st I) : jJ Z E nL Q pc lv st I := fun ls H locs hl hP hS => lv_iinc C.x C.b d hl hk hv hn hl' (fun ls' hl2 => h ls' H locs hl2 hP hS)
theorem j_iadd (C : jC Z E cc nL own fR lR) {x y : Int32} (d : decode cc pc = .ok (.iadd, 1)) (h : jJ Z E nL Q (pc + 1) lv (.int (x + y) :: st) I) : jJ Z E nL Q pc lv (.int y :: .int x :: st) I := fun ls H locs hl hP hS => lv_iadd C.x C.b d (h ls H locs hl hP hS)
theorem j_isub (C : jC Z E cc nL own fR lR) {x y : Int32} (d : decode cc pc = .ok (.isub, 1)) (h : jJ Z E nL Q (pc + 1) lv (.int (x - y) :: st) I) : jJ Z E nL Q pc lv (.int y :: .int x :: st) I := fun ls H locs hl hP hS => lv_isub C.x C.b d (h ls H locs hl hP hS)
theorem j_imul (C : jC Z E cc nL own fR lR) {x y : Int32} (d : decode cc pc = .ok (.imul, 1)) (h : jJ Z E nL Q (pc + 1) lv (.int (x * y) :: st) I) : jJ Z E nL Q pc lv (.int y :: .int x :: st) I := fun ls H locs hl hP hS => lv_imul C.x C.b d (h ls H locs hl hP hS)
theorem j_iand (C : jC Z E cc nL own fR lR) {x y : Int32} (d : decode cc pc = .ok (.iand, 1)) (h : jJ Z E nL Q (pc + 1) lv (.int (x &&& y) :: st) I) : jJ Z E nL Q pc lv (.int y :: .int x :: st) I := fun ls H locs hl hP hS => lv_iand C.x C.b d (h ls H locs hl hP hS)
theorem j_ior (C : jC Z E cc nL own fR lR) {x y : Int32} (d : decode cc pc = .ok (.ior, 1)) (h : jJ Z E nL Q (pc + 1) lv (.int (x ||| y) :: st) I) : jJ Z E nL Q pc lv (.int y :: .int x :: st) I := fun ls H locs hl hP hS => lv_ior C.x C.b d (h ls H locs hl hP hS)
theorem j_ixor (C : jC Z E cc nL own fR lR) {x y : Int32} (d : decode cc pc = .ok (.ixor, 1)) (h : jJ Z E nL Q (pc + 1) lv (.int (x ^^^ y) :: st) I) : jJ Z E nL Q pc lv (.int y :: .int x :: st) I := fun ls H locs hl hP hS => lv_ixor C.x C.b d (h ls H locs hl hP hS)
theorem j_ishl (C : jC Z E cc nL own fR lR) {x y : Int32} (d : decode cc pc = .ok (.ishl, 1)) (h : jJ Z E nL Q (pc + 1) lv (.int (x <<< (y &&& 31)) :: st) I) : jJ Z E nL Q pc lv (.int y :: .int x :: st) I := fun ls H locs hl hP hS => lv_ishl C.x C.b d (h ls H locs hl hP hS)
theorem j_ishr (C : jC Z E cc nL own fR lR) {x y : Int32} (d : decode cc pc = .ok (.ishr, 1)) (h : jJ Z E nL Q (pc + 1) lv (.int (x >>> (y &&& 31)) :: st) I) : jJ Z E nL Q pc lv (.int y :: .int x :: st) I := fun ls H locs hl hP hS => lv_ishr C.x C.b d (h ls H locs hl hP hS)
theorem j_iushr (C : jC Z E cc nL own fR lR) {x y : Int32} (d : decode cc pc = .ok (.iushr, 1)) (h : jJ Z E nL Q (pc + 1) lv (.int ((x.toUInt32 >>> (y.toUInt32 &&& Int32.toUInt32 31)).toInt32) :: st) I) : jJ Z E nL Q pc lv (.int y :: .int x :: st) I := fun ls H locs hl hP hS => lv_iushr C.x C.b d rfl (h ls H locs hl hP hS)
theorem j_ineg (C : jC Z E cc nL own fR lR) {x : Int32} (d : decode cc pc = .ok (.ineg, 1)) (h : jJ Z E nL Q (pc + 1) lv (.int (-x) :: st) I) : jJ Z E nL Q pc lv (.int x :: st) I := fun ls H locs hl hP hS => lv_ineg C.x C.b d (h ls H locs hl hP hS)
theorem j_idiv (C : jC Z E cc nL own fR lR) {x y : Int32} (d : decode cc pc = .ok (.idiv, 1)) (hne : ¬ y = 0) (h : jJ Z E nL Q (pc + 1) lv (.int (x / y) :: st) I) : jJ Z E nL Q pc lv (.int y :: .int x :: st) I := fun ls H locs hl hP hS => lv_idiv C.x C.b d hne (h ls H locs hl hP hS)
theorem j_irem (C : jC Z E cc nL own fR lR) {x y : Int32} (d : decode cc pc = .ok (.irem, 1)) (hne : ¬ y = 0) (h : jJ Z E nL Q (pc + 1) lv (.int (x - x / y * y) :: st) I) : jJ Z E nL Q pc lv (.int y :: .int x :: st) I := fun ls H locs hl hP hS => lv_irem C.x C.b d hne (h ls H locs hl hP hS)
theorem j_ladd (C : jC Z E cc nL own fR lR) {x y : Int64} (d : decode cc pc = .ok (.ladd, 1)) (h : jJ Z E nL Q (pc + 1) lv (.long (x + y) :: st) I) : jJ Z E nL Q pc lv (.long y :: .long x :: st) I := fun ls H locs hl hP hS => lv_ladd C.x C.b d (h ls H locs hl hP hS)
theorem j_lsub (C : jC Z E cc nL own fR lR) {x y : Int64} (d : decode cc pc = .ok (.lsub, 1)) (h : jJ Z E nL Q (pc + 1) lv (.long (x - y) :: st) I) : jJ Z E nL Q pc lv (.long y :: .long x :: st) I := fun ls H locs hl hP hS => lv_lsub C.x C.b d (h ls H locs hl hP hS)
theorem j_lmul (C : jC Z E cc nL own fR lR) {x y : Int64} (d : decode cc pc = .ok (.lmul, 1)) (h : jJ Z E nL Q (pc + 1) lv (.long (x * y) :: st) I) : jJ Z E nL Q pc lv (.long y :: .long x :: st) I := fun ls H locs hl hP hS => lv_lmul C.x C.b d (h ls H locs hl hP hS)
theorem j_lrem (C : jC Z E cc nL own fR lR) {x y : Int64} (d : decode cc pc = .ok (.lrem, 1)) (hne : ¬ y = 0) (h : jJ Z E nL Q (pc + 1) lv (.long (x - x / y * y) :: st) I) : jJ Z E nL Q pc lv (.long y :: .long x :: st) I := fun ls H locs hl hP hS => lv_lrem C.x C.b d hne (h ls H locs hl hP hS)
theorem j_lcmp (C : jC Z E cc nL own fR lR) {x y : Int64} (d : decode cc pc = .ok (.lcmp, 1)) (h : jJ Z E nL Q (pc + 1) lv (.int (lg_cmp x y) :: st) I) : jJ Z E nL Q pc lv (.long y :: .long x :: st) I := fun ls H locs hl hP hS => W.lcmp C.x C.b d (h ls H locs hl hP hS)
theorem j_i2l (C : jC Z E cc nL own fR lR) {x : Int32} (d : decode cc pc = .ok (.i2l, 1)) (h : jJ Z E nL Q (pc + 1) lv (.long x.toInt64 :: st) I) : jJ Z E nL Q pc lv (.int x :: st) I := fun ls H locs hl hP hS => lv_i2l C.x C.b d rfl (h ls H locs hl hP hS)
theorem j_l2i (C : jC Z E cc nL own fR lR) {x : Int64} (d : decode cc pc = .ok (.l2i, 1)) (h : jJ Z E nL Q (pc + 1) lv (.int x.toInt32 :: st) I) : jJ Z E nL Q pc lv (.long x :: st) I := fun ls H locs hl hP hS => lv_l2i C.x C.b d rfl (h ls H locs hl hP hS)
theorem j_dup (C : jC Z E cc nL own fR lR) {v : Value} (d : decode cc pc = .ok (.dup, 1)) (hv : v.category = 1) (h : jJ Z E nL Q (pc + 1) lv (v :: v :: st) I) : jJ Z E nL Q pc lv (v :: st) I := fun ls H locs hl hP hS => lv_dup C.x C.b d hv (h ls H locs hl hP hS)
theorem j_dup2 (C : jC Z E cc nL own fR lR) {v w : Value} (d : decode cc pc = .ok (.dup2, 1)) (hv : v.category = 1) (hw : w.category = 1) (h : jJ Z E nL Q (pc + 1) lv (v :: w :: v :: w :: st) I) : jJ Z E nL Q pc lv (v :: w :: st) I := fun ls H locs hl hP hS => lv_dup2_11 C.x C.b d hv hw (h ls H locs hl hP hS)
theorem j_pop (C : jC Z E cc nL own fR lR) {v : Value} (d : decode cc pc = .ok (.pop, 1)) (hv : v.category = 1) (h : jJ Z E nL Q (pc + 1) lv st I) : jJ Z E nL Q pc lv (v :: st) I := fun ls H locs hl hP hS => lv_pop C.x C.b d hv (h ls H locs hl hP hS)
theorem j_topi {x : Int32} (h : ∀ y : Int32, y = x → jJ Z E nL Q pc lv (.int y :: st) I) : jJ Z E nL Q pc lv (.int x :: st) I := h x rfl
theorem j_topl {x : Int64} (h : ∀ y : Int64, y = x → jJ Z E nL Q pc lv (.long y :: st) I) : jJ Z E nL Q pc lv (.long x :: st) I := h x rfl
theorem j_goto (C : jC Z E cc nL own fR lR) {off : Int} {tgt : Nat} (d : decode cc pc = .ok (.goto off, 3)) (ht : (pc : Int) + off = (tgt : Int)) (h : jJ Z E nL Q tgt lv st I) : jJ Z E nL Q pc lv st I := fun ls H locs hl hP hS => lv_goto C.x C.b d ht (h ls H locs hl hP hS)
/-- fewer locals, by their places -/
theorem j_lv {lv' : List (Nat × Value)} (ks : List Nat) (hk : lv_pick lv ks = lv') (h : jJ Z E nL Q pc lv' st I) : jJ Z E nL Q pc lv st I := fun ls H locs hl hP hS => h ls H locs (lv_sub hl ks hk) hP hS
theorem j_tableOut (C : jC Z E cc nL own fR lR) {dflt lo hi : Int} {offs : Array Int} {len : Nat} {x : Int32} {tgt : Nat} (d : decode cc pc = .ok (.tableswitch dflt lo hi offs, len)) (h0 : x.toInt < lo ∨ hi < x.toInt) (ht : (pc : Int) + dflt = (tgt : Int)) (h : jJ Z E nL Q tgt lv st I) : jJ Z E nL Q pc lv (.int x :: st) I := fun ls H locs hl hP hS => lv_tableOut C.x C.b d h0 ht (h ls H locs hl hP hS)
theorem j_tableIn (C : jC Z E cc nL own fR lR) {dflt lo hi : Int} {offs : Array Int} {len : Nat} {x : Int32} {off : Int} {tgt : Nat} (d : decode cc pc = .ok (.tableswitch dflt lo hi offs, len)) (h1 : ¬ x.toInt < lo) (h2 : ¬ hi < x.toInt) (ho : offs[(x.toInt - lo).toNat]? = some off) (ht : (pc : Int) + off = (tgt : Int)) (h : jJ Z E nL Q tgt lv st I) : jJ Z E nL Q pc lv (.int x :: st) I := fun ls H locs hl hP hS => lv_tableIn C.x C.b d h1 h2 ho ht (h ls H locs hl hP hS)
theorem j_if_eq (C : jC Z E cc nL own fR lR) {x : Int32} {off : Int} {tgt : Nat} (d : decode cc pc = .ok (.ifCond .eq off, 3)) (ht : (pc : Int) + off = (tgt : Int)) (kt : x = 0 → jJ Z E nL Q tgt lv st I) (kf : ¬ x = 0 → jJ Z E nL Q (pc + 3) lv st I) : jJ Z E nL Q pc lv (.int x :: st) I := fun ls H locs hl hP hS => lv_if_eq C.x C.b d ht (fun q => kt q ls H locs hl hP hS) (fun q => kf q ls H locs hl hP hS)
theorem j_icmp_eq (C : jC Z E cc nL own fR lR) {x y : Int32} {off : Int} {tgt : Nat} (d : decode cc pc = .ok (.if_icmp .eq off, 3)) (ht : (pc : Int) + off = (tgt : Int)) (kt : x = y → jJ Z E nL Q tgt lv st I) (kf : ¬ x = y → jJ Z E nL Q (pc + 3) lv st I) : jJ Z E nL Q pc lv (.int y :: .int x :: st) I := fun ls H locs hl hP hS => lv_icmp_eq C.x C.b d ht (fun q => kt q ls H locs hl hP hS) (fun q => kf q ls H locs hl hP hS)
theorem j_if_ne (C : jC Z E cc nL own fR lR) {x : Int32} {off : Int} {tgt : Nat} (d : decode cc pc = .ok (.ifCond .ne off, 3)) (ht : (pc : Int) + off = (tgt : Int)) (kt : ¬ x = 0 → jJ Z E nL Q tgt lv st I) (kf : x = 0 → jJ Z E nL Q (pc + 3) lv st I) : jJ Z E nL Q pc lv (.int x :: st) I := fun ls H locs hl hP hS => lv_if_ne C.x C.b d ht (fun q => kt q ls H locs hl hP hS) (fun q => kf q ls H locs hl hP hS)
theorem j_icmp_ne (C : jC Z E cc nL own fR lR) {x y : Int32} {off : Int} {tgt : Nat} (d : decode cc pc = .ok (.if_icmp .ne off, 3)) (ht : (pc : Int) + off = (tgt : Int)) (kt : ¬ x = y → jJ Z E nL Q tgt lv st I) (kf : x = y → jJ Z E nL Q (pc + 3) lv st I) : jJ Z E nL Q pc lv (.int y :: .int x :: st) I := fun ls H locs hl hP hS => lv_icmp_ne C.x C.b d ht (fun q => kt q ls H locs hl hP hS) (fun q => kf q ls H locs hl hP hS)
theorem j_if_lt (C : jC Z E cc nL own fR lR) {x : Int32} {off : Int} {tgt : Nat} (d : decode cc pc = .ok (.ifCond .lt off, 3)) (ht : (pc : Int) + off = (tgt : Int)) (kt : x < 0 → jJ Z E nL Q tgt lv st I) (kf : ¬ x < 0 → jJ Z E nL Q (pc + 3) lv st I) : jJ Z E nL Q pc lv (.int x :: st) I := fun ls H locs hl hP hS => lv_if_lt C.x C.b d ht (fun q => kt q ls H locs hl hP hS) (fun q => kf q ls H locs hl hP hS)
theorem j_icmp_lt (C : jC Z E cc nL own fR lR) {x y : Int32} {off : Int} {tgt : Nat} (d : decode cc pc = .ok (.if_icmp .lt off, 3)) (ht : (pc : Int) + off = (tgt : Int)) (kt : x < y → jJ Z E nL Q tgt lv st I) (kf : ¬ x < y → jJ Z E nL Q (pc + 3) lv st I) : jJ Z E nL Q pc lv (.int y :: .int x :: st) I := fun ls H locs hl hP hS => lv_icmp_lt C.x C.b d ht (fun q => kt q ls H locs hl hP hS) (fun q => kf q ls H locs hl hP hS)
theorem j_if_ge (C : jC Z E cc nL own fR lR) {x : Int32} {off : Int} {tgt : Nat} (d : decode cc pc = .ok (.ifCond .ge off, 3)) (ht : (pc : Int) + off = (tgt : Int)) (kt : 0 ≤ x → jJ Z E nL Q tgt lv st I) (kf : ¬ 0 ≤ x → jJ Z E nL Q (pc + 3) lv st I) : jJ Z E nL Q pc lv (.int x :: st) I := fun ls H locs hl hP hS => lv_if_ge C.x C.b d ht (fun q => kt q ls H locs hl hP hS) (fun q => kf q ls H locs hl hP hS)
theorem j_icmp_ge (C : jC Z E cc nL own fR lR) {x y : Int32} {off : Int} {tgt : Nat} (d : decode cc pc = .ok (.if_icmp .ge off, 3)) (ht : (pc : Int) + off = (tgt : Int)) (kt : y ≤ x → jJ Z E nL Q tgt lv st I) (kf : ¬ y ≤ x → jJ Z E nL Q (pc + 3) lv st I) : jJ Z E nL Q pc lv (.int y :: .int x :: st) I := fun ls H locs hl hP hS => lv_icmp_ge C.x C.b d ht (fun q => kt q ls H locs hl hP hS) (fun q => kf q ls H locs hl hP hS)
theorem j_if_gt (C : jC Z E cc nL own fR lR) {x : Int32} {off : Int} {tgt : Nat} (d : decode cc pc = .ok (.ifCond .gt off, 3)) (ht : (pc : Int) + off = (tgt : Int)) (kt : 0 < x → jJ Z E nL Q tgt lv st I) (kf : ¬ 0 < x → jJ Z E nL Q (pc + 3) lv st I) : jJ Z E nL Q pc lv (.int x :: st) I := fun ls H locs hl hP hS => lv_if_gt C.x C.b d ht (fun q => kt q ls H locs hl hP hS) (fun q => kf q ls H locs hl hP hS)
theorem j_icmp_gt (C : jC Z E cc nL own fR lR) {x y : Int32} {off : Int} {tgt : Nat} (d : decode cc pc = .ok (.if_icmp .gt off, 3)) (ht : (pc : Int) + off = (tgt : Int)) (kt : y < x → jJ Z E nL Q tgt lv st I) (kf : ¬ y < x → jJ Z E nL Q (pc + 3) lv st I) : jJ Z E nL Q pc lv (.int y :: .int x :: st) I := fun ls H locs hl hP hS => lv_icmp_gt C.x C.b d ht (fun q => kt q ls H locs hl hP hS) (fun q => kf q ls H locs hl hP hS)
theorem j_if_le (C : jC Z E cc nL own fR lR) {x : Int32} {off : Int} {tgt : Nat} (d : decode cc pc = .ok (.ifCond .le off, 3)) (ht : (pc : Int) + off = (tgt : Int)) (kt : x ≤ 0 → jJ Z E nL Q tgt lv st I) (kf : ¬ x ≤ 0 → jJ Z E nL Q (pc + 3) lv st I) : jJ Z E nL Q pc lv (.int x :: st) I := fun ls H locs hl hP hS => lv_if_le C.x C.b d ht (fun q => kt q ls H locs hl hP hS) (fun q => kf q ls H locs hl hP hS)
theorem j_icmp_le (C : jC Z E cc nL own fR lR) {x y : Int32} {off : Int} {tgt : Nat} (d : decode cc pc = .ok (.if_icmp .le off, 3)) (ht : (pc : Int) + off = (tgt : Int)) (kt : x ≤ y → jJ Z E nL Q tgt lv st I) (kf : ¬ x ≤ y → jJ Z E nL Q (pc + 3) lv st I) : jJ Z E nL Q pc lv (.int y :: .int x :: st) I := fun ls H locs hl hP hS => lv_icmp_le C.x C.b d ht (fun q => kt q ls H locs hl hP hS) (fun q => kf q ls H locs hl hP hS)
end JR
