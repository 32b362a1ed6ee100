/-! ===== new int[N][M] (multianewarray of two lengths): the outer row at the heap's end, its N rows behind it ===== -/
/-- the outer row when i of its rows are made -/
def ma_f (h i : Nat) : Nat → Value := fun j => if j < i then .ref (h + 1 + j) else .null
theorem ma_f_next (h i : Nat) : updV (ma_f h i) i (.ref (h + 1 + i)) = ma_f h (i + 1) := by
  funext j
  unfold updV ma_f
  by_cases e : j = i
  · subst e; simp
  · by_cases l : j < i
    · simp [e, l, Nat.lt_succ_of_lt l]
    · simp [e, l, show ¬ j < i + 1 by omega]
def ma_z (cI : ClassId) (M : Nat) : Cell := arrV cI M (fun _ => .int 0)
def ma_o (cA : ClassId) (N h i : Nat) : Cell := arrV cA N (ma_f h i)
/-- the state when i rows are made -/
def ma_S (T : State) (cA cI : ClassId) (N M : Nat) : Nat → State
  | 0 => T.pushCell (ma_o cA N T.heap.size 0)
  | i + 1 => ((ma_S T cA cI N M i).pushCell (ma_z cI M)).setCell T.heap.size (ma_o cA N T.heap.size (i + 1))
section MA
variable (T : State) (cA cI : ClassId) (N M : Nat)
theorem ma_size : ∀ i, (ma_S T cA cI N M i).heap.size = T.heap.size + 1 + i
  | 0 => by simp [ma_S]
  | i + 1 => by
    have h := ma_size i
    show (((ma_S T cA cI N M i).pushCell (ma_z cI M)).setCell T.heap.size _).heap.size = _
    simp [State.setCell, h]; omega
theorem ma_vm : ∀ i, (ma_S T cA cI N M i).vm = T.vm
  | 0 => rfl
  | i + 1 => by have h := ma_vm i; simp [ma_S, h]
theorem ma_used : ∀ i, (ma_S T cA cI N M i).slotsUsed = T.slotsUsed + N + i * M
  | 0 => by simp [ma_S, ma_o, arrV]
  | i + 1 => by have h := ma_used i; simp [ma_S, h, ma_z, arrV, Nat.succ_mul]; omega
theorem ma_below {a : Nat} (ha : a < T.heap.size) : ∀ i, (ma_S T cA cI N M i).heap[a]? = T.heap[a]?
  | 0 => State.heap_pushCell_of_lt _ _ ha
  | i + 1 => by
    have hl : a < (ma_S T cA cI N M i).heap.size := by rw [ma_size]; omega
    show (((ma_S T cA cI N M i).pushCell (ma_z cI M)).setCell T.heap.size _).heap[a]? = _
    rw [State.heap_setCell_other (Nat.ne_of_gt ha), State.heap_pushCell_of_lt (h := hl)]
    exact ma_below ha i
theorem ma_outer : ∀ i, (ma_S T cA cI N M i).heap[T.heap.size]? = some (ma_o cA N T.heap.size i)
  | 0 => by simp [ma_S]
  | i + 1 => by
    have hl : T.heap.size < (ma_S T cA cI N M i).heap.size := by rw [ma_size]; omega
    exact State.heap_setCell_self (s := (ma_S T cA cI N M i).pushCell (ma_z cI M)) (by rw [State.heap_pushCell_of_lt (h := hl)]; exact ma_outer i)
theorem ma_row : ∀ i j, j < i → (ma_S T cA cI N M i).heap[T.heap.size + 1 + j]? = some (ma_z cI M)
  | 0, _, h => absurd h (Nat.not_lt_zero _)
  | i + 1, j, h => by
    show (((ma_S T cA cI N M i).pushCell (ma_z cI M)).setCell T.heap.size _).heap[T.heap.size + 1 + j]? = _
    rw [State.heap_setCell_other (show T.heap.size ≠ T.heap.size + 1 + j by omega)]
    by_cases hj : j < i
    · have hl : T.heap.size + 1 + j < (ma_S T cA cI N M i).heap.size := by rw [ma_size]; omega
      rw [State.heap_pushCell_of_lt (h := hl)]
      exact ma_row i j hj
    · have e : j = i := by omega
      subst e
      have hz := ma_size T cA cI N M j
      rw [← hz]
      exact State.heap_pushCell_size _ _
theorem ma_top (f : JFrame) : ∀ i, ma_S (T.setTop f) cA cI N M i = (ma_S T cA cI N M i).setTop f
  | 0 => rfl
  | i + 1 => by simp only [ma_S, ma_top f i, State.heap_setTop, State.pushCell_setTop, State.setCell_setTop]
end MA
/-- one new row of the model, all of it the type's nought -/
theorem ma_wp1 {Er : CtlPost} {e : Env} {d : Bool} {acts : List Action} {s : State} {c comp : ClassId} {k : Class} {type : FieldType} {len : Nat} {v0 : Value} (hk : s.vm.classes[c]? = some k) (hkind : k.kind = .array comp type) (hlim : ¬ len > e.platform.arrayLengthLimit) (hhp : ¬ len * componentBytes type > e.platform.maxHeapBytes) (hfit : fits type v0 = true) (hdef : v0.isDefault = true) (h1 : s.heap.size < e.platform.maxCells) (h2 : s.slotsUsed + len ≤ e.platform.maxSlots) {Q : Addr → Pre}
    (hq : Q s.heap.size d acts (s.pushCell (arrV c len (fun _ => v0)))) : wp (Jvm.newArray c len v0) Q Er e d acts s := by
  rw [← arrV_new] at hq
  have hall : ∀ (i : Nat) (v : Value), (Array.replicate len v0)[i]? = some v → s.fitsSlot c .none i v = true := fun i v hv => by
    rw [Array.getElem?_replicate] at hv
    split at hv
    · cases hv
      simp [State.fitsSlot, State.slotType?, hk, hkind, hfit]
    · cases hv
  have hacts : allocActs (Array.replicate len v0) s.heap.size acts = acts := by
    unfold allocActs
    rw [if_pos (by rw [Array.all_replicate]; split <;> simp [hdef])]
  simp only [Jvm.newArray, Jvm.arrayFits, wp_bind', W.ask, W.ite, hlim, if_false, wp_pure', W.theClass, hk, hkind, hhp, W.alloc, W.stop, Option.some.injEq, exists_eq_left', Array.size_replicate, hacts]
  rw [if_neg (by omega)]
  exact ⟨h1, h2, hall, hq⟩
theorem ma_ref (v : Value) (hv : v = .null ∨ ∃ a, v = .ref a) : fits (.array .int) v = true := by
  rcases hv with rfl | ⟨a, rfl⟩ <;> rfl
/-- the model's making of int[n][m] -/
theorem ma_wp2 {Er : CtlPost} {e : Env} {d : Bool} {acts : List Action} {s : State} {cA cI c0 : ClassId} {kA kI : Class} {n m : Int32} (hkA : s.vm.classes[cA]? = some kA) (hdA : kA.kind = .array cI (.array .int)) (hkI : s.vm.classes[cI]? = some kI) (hdI : kI.kind = .array c0 .int) (hn : ¬ n < 0) (hm : ¬ m < 0)
    (a1 : ¬ n.toNatClampNeg > e.platform.arrayLengthLimit) (a2 : ¬ n.toNatClampNeg * 4 > e.platform.maxHeapBytes) (a3 : ¬ m.toNatClampNeg > e.platform.arrayLengthLimit) (a4 : ¬ m.toNatClampNeg * 4 > e.platform.maxHeapBytes)
    (hc : s.heap.size + 1 + n.toNatClampNeg ≤ e.platform.maxCells) (hs : s.slotsUsed + n.toNatClampNeg + n.toNatClampNeg * m.toNatClampNeg ≤ e.platform.maxSlots)
    {Q : Addr → Pre} (hq : ∀ d2 acts2, Q s.heap.size d2 acts2 (ma_S s cA cI n.toNatClampNeg m.toNatClampNeg n.toNatClampNeg)) : wp (multianewarray.make cA [n, m]) Q Er e d acts s := by
  rw [multianewarray.make]
  simp only [wp_bind', W.ite, hn, if_false, wp_pure', W.theClass, hkA, hdA, Option.some.injEq, exists_eq_left']
  refine ma_wp1 hkA hdA a1 a2 (ma_ref _ (Or.inl rfl)) rfl (by omega) (by omega) ?_
  have hno : ([m].find? (· < 0)) = none := by simp [hm]
  simp only [hno]
  rw [ite_self, wp_bind', Std.Legacy.Range.forIn_eq_forIn_range', show ([:n.toNatClampNeg] : Std.Legacy.Range).size = n.toNatClampNeg by simp [Std.Legacy.Range.size]]
  show wp (forIn (List.range' 0 n.toNatClampNeg 1) PUnit.unit _) _ Er e d acts _
  refine wp_forIn_inv (fun todo S => ∃ i, i ≤ n.toNatClampNeg ∧ todo = List.range' i (n.toNatClampNeg - i) ∧ S = ma_S s cA cI n.toNatClampNeg m.toNatClampNeg i) _ _ ⟨0, Nat.zero_le _, rfl, rfl⟩ ?_ ?_
  · rintro x todo S d2 acts2 Q2 ⟨i, hi, hl, rfl⟩ go
    by_cases hlt : i < n.toNatClampNeg
    · rw [show n.toNatClampNeg - i = (n.toNatClampNeg - (i + 1)) + 1 by omega, List.range'_succ] at hl
      obtain ⟨hx, htodo⟩ := List.cons.inj hl
      subst hx
      have hz := ma_size s cA cI n.toNatClampNeg m.toNatClampNeg x
      have hu := ma_used s cA cI n.toNatClampNeg m.toNatClampNeg x
      have hv := ma_vm s cA cI n.toNatClampNeg m.toNatClampNeg x
      have ho := ma_outer s cA cI n.toNatClampNeg m.toNatClampNeg x
      have hmul : x * m.toNatClampNeg + m.toNatClampNeg ≤ n.toNatClampNeg * m.toNatClampNeg := by
        have := Nat.mul_le_mul_right m.toNatClampNeg hlt
        rw [Nat.succ_mul] at this
        exact this
      have hin : s.heap.size < (ma_S s cA cI n.toNatClampNeg m.toNatClampNeg x).heap.size := by rw [hz]; omega
      simp only [wp_bind']
      rw [multianewarray.make]
      simp only [wp_bind', W.ite, hm, if_false, wp_pure', W.theClass, hv, hkI, hdI, Option.some.injEq, exists_eq_left']
      refine ma_wp1 (by rw [hv]; exact hkI) hdI a3 a4 rfl rfl (by rw [hz]; omega) (by rw [hu]; omega) ?_
      simp only [wp_bind', W.writeLoc, wp_pure']
      refine ⟨ma_o cA n.toNatClampNeg s.heap.size x, by rw [State.heap_pushCell_of_lt (h := hin)]; exact ho, by simp [ma_o, arrV], by simp [ma_o, arrV, hlt], ?_, go _ _ _ ⟨x + 1, hlt, htodo, ?_⟩⟩
      · simp [ma_o, arrV, State.fitsSlot, State.slotType?, hv, hkA, hdA, ma_ref _ (Or.inr ⟨_, rfl⟩)]
      · show _ = ((ma_S s cA cI n.toNatClampNeg m.toNatClampNeg x).pushCell (ma_z cI m.toNatClampNeg)).setCell s.heap.size (ma_o cA n.toNatClampNeg s.heap.size (x + 1))
        rw [hz]
        unfold ma_o
        rw [arrV_store, ma_f_next]
        rfl
    · rw [show n.toNatClampNeg - i = 0 by omega] at hl
      cases hl
  · rintro S d2 acts2 ⟨i, hi, hl, rfl⟩
    have e : i = n.toNatClampNeg := by
      by_cases hlt : i < n.toNatClampNeg
      · rw [show n.toNatClampNeg - i = (n.toNatClampNeg - (i + 1)) + 1 by omega, List.range'_succ] at hl
        cases hl
      · omega
    subst e
    simp only [wp_pure']
    exact hq _ _
section MB
variable {p : Program} {l : Launch} {e : Env} {R : Room} {s : State} {m : MethodId} {args : Array Value} {below : List Frame} {meth : Method} {c : Code} {T : State} {locs : List Loc} {cells slots : Nat}
theorem ma_stand (X : Stand p l e R s m args below meth c T locs cells slots) (cA cI : ClassId) (N M : Nat) : ∀ i, Stand p l e R s m args below meth c (ma_S T cA cI N M i) (locs ++ (List.range i).map (fun j => (⟨T.heap.size, j⟩ : Loc))) (cells + 1 + i) (slots + N + i * M)
  | 0 => by
    have h := X.pushed (ma_o cA N T.heap.size 0)
    rw [show (ma_o cA N T.heap.size 0).slots.size = N from arrV_size _ _ _] at h
    simpa [ma_S] using h
  | i + 1 => by
    have Xi := ma_stand X cA cI N M i
    have hin : T.heap.size < (ma_S T cA cI N M i).heap.size := by rw [ma_size]; omega
    have hcell : ((ma_S T cA cI N M i).pushCell (ma_z cI M)).heap[T.heap.size]? = some (ma_o cA N T.heap.size i) := by rw [State.heap_pushCell_of_lt (h := hin)]; exact ma_outer T cA cI N M i
    have h := (Xi.pushed (ma_z cI M)).stored hcell i (.ref (T.heap.size + 1 + i))
    rw [show (ma_z cI M).slots.size = M from arrV_size _ _ _, show (ma_o cA N T.heap.size i).setSlot i (.ref (T.heap.size + 1 + i)) = ma_o cA N T.heap.size (i + 1) from by unfold ma_o; rw [arrV_store, ma_f_next]] at h
    have e1 : (locs ++ (List.range (i + 1)).map (fun j => (⟨T.heap.size, j⟩ : Loc))) = (locs ++ (List.range i).map (fun j => (⟨T.heap.size, j⟩ : Loc))) ++ [⟨T.heap.size, i⟩] := by simp [List.range_succ, List.append_assoc]
    rw [e1, show slots + N + (i + 1) * M = slots + N + i * M + M by rw [Nat.succ_mul]; omega]
    exact h
theorem ma_step (X : Stand p l e R s m args below meth c T locs cells slots) (hexec : p.tables.exec = Jvm.exec) {own : String} {index : Nat} {cA cI c0 : ClassId} {kA kI : Class} (hown : s.vm.findClass own = some m.cls) (hcl : (Cond.classLink own index "[[I").before args s = true)
    (hfA : s.vm.findClass "[[I" = some cA) (hkA : s.vm.classes[cA]? = some kA) (hdA : kA.kind = .array cI (.array .int)) (hkI : s.vm.classes[cI]? = some kI) (hdI : kI.kind = .array c0 .int)
    {g : JFrame} (hg : g.method = m) (hdg : decode c.code g.pc = .ok (.multianewarray index 2, 4)) {a b : Int32} {rest : List Value} (hstack : g.stack = .int b :: .int a :: rest) (ha : ¬ a < 0) (hb : ¬ b < 0) (ha2 : a.toNatClampNeg ≤ 1000) (hb2 : b.toNatClampNeg ≤ 1000)
    (hcells : cells + (1 + a.toNatClampNeg) ≤ R.cells) (hslots : slots + (a.toNatClampNeg + a.toNatClampNeg * b.toNatClampNeg) ≤ R.slots) :
    ∃ vm1 : Vm, Stand p l e R s m args below meth c (ma_S (T.setVm vm1) cA cI a.toNatClampNeg b.toNatClampNeg a.toNatClampNeg) locs (cells + 1 + a.toNatClampNeg) (slots + a.toNatClampNeg + a.toNatClampNeg * b.toNatClampNeg) ∧
      ∀ tg, Steps p.tables e below ((ma_S (T.setVm vm1) cA cI a.toNatClampNeg b.toNatClampNeg a.toNatClampNeg).setTop { g with pc := g.pc + 4, stack := .ref T.heap.size :: rest }) tg → Steps p.tables e below (T.setTop g) tg := by
  subst hg
  obtain ⟨c1, hf1, hres⟩ := Cond.classLink_spec hown hcl e.platform (by rw [X.admits.platform])
  cases hfA.symm.trans hf1
  obtain ⟨q1, hwarm, -⟩ := State.classEntry (e := e) X.warmed hres
  generalize T.vm.noted g.method.cls index (.cls cA) = vm1 at q1 hwarm
  obtain ⟨kA1, hkA1, eA⟩ := hwarm.alike.2.2 _ _ hkA
  obtain ⟨kI1, hkI1, eI⟩ := hwarm.alike.2.2 _ _ hkI
  have X1 := X.noted hwarm
  obtain ⟨hr1, hr2⟩ := X.roomAbove hcells hslots
  have XF := ma_stand X1 cA cI a.toNatClampNeg b.toNatClampNeg a.toNatClampNeg
  refine ⟨vm1, XF.dropFresh (fun x hx => ?_), fun tg go => ?_⟩
  · obtain ⟨j, -, rfl⟩ := List.mem_map.mp hx
    exact X.heapGrown
  · have b1 : ¬ a.toNatClampNeg > e.platform.arrayLengthLimit := by rw [Launch.admits_arrayLengthLimit X.admits]; omega
    have b2 : ¬ a.toNatClampNeg * 4 > e.platform.maxHeapBytes := by rw [Launch.admits_maxHeapBytes X.admits]; omega
    have b3 : ¬ b.toNatClampNeg > e.platform.arrayLengthLimit := by rw [Launch.admits_arrayLengthLimit X.admits]; omega
    have b4 : ¬ b.toNatClampNeg * 4 > e.platform.maxHeapBytes := by rw [Launch.admits_maxHeapBytes X.admits]; omega
    jvm_step X.here [hexec, hdg]
    simp only [multianewarray.sem, wp_bind', W.resolveClassAt_links (State.method?_setTop g X.here.top) q1]
    rw [W.popN, if_neg (by decide)]
    refine ⟨g, State.topJava?_setTop' (s := T.setVm vm1) g X.here.top, [.int a, .int b], rest, rfl, hstack, ?_⟩
    simp only [List.mapM_cons, List.mapM_nil, wp_bind', wp_pure']
    refine ma_wp2 (kA := kA1) (kI := kI1) (c0 := c0) hkA1 (by rw [eA]; exact hdA) hkI1 (by rw [eI]; exact hdI) ha hb b1 b2 b3 b4 (by show T.heap.size + 1 + _ ≤ _; omega) (by show T.slotsUsed + _ + _ ≤ _; omega) (fun d2 acts2 => ?_)
    have eS : ((T.setTop g).setVm vm1).setTop { g with stack := rest } = (T.setVm vm1).setTop { g with stack := rest } := by
      show ((T.setVm vm1).setTop g).setTop _ = _
      rw [State.setTop_setTop]
    rw [eS, ma_top]
    simp only [wp_bind', W.mark, W.pushRef, State.topJava?_setTop' _ XF.here.top, Option.some.injEq, exists_eq_left', State.setTop_setTop, State.heap_setTop]
    intro acts3
    simp [jvm, XF.here.top]
    exact go
end MB
