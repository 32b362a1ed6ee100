/-! ===== the J layer: contracts, calls, answers ===== -/
/-- the world of a memory, in a state -/
def jB (E : jE) (I : jM) (U : State) : Prop := va_P E.1 jCl (jworld E I) U.heap ∧ va_K E.1 jCl (jtys E) U ∧ jN U
theorem jB_blind (E : jE) (I : jM) (as : List Value) : FrameBlind (va_Pc as (jB E I)) := fun a U g mk q => by
  obtain ⟨q0, qP, qK, qN⟩ := q
  exact ⟨q0, qP, va_K.moved (u := U) (U := U.calling g mk a) (Vm.Alike.refl U.vm) qK, jN.same (u := U) (U := U.calling g mk a) rfl qN⟩
/-- contracts: the answer and the memory behind the method are as K says (an int, nothing, a cell) -/
def jSi (l : Launch) (E : jE) (y : MethodName) (cc : ByteArray) (mL : Nat) (ret : Option FieldType) (f L : Nat) (as : List Value) (I : jM) (K : Int32 → jM → Prop) : Prop :=
  Met l y (.code y cc mL ret :: jtbl) ({ frames := f, cells := 0, slots := 0, locals := L } : Room) (va_Pc as (jB E I)) (va_Qi K (jB E) (jA E)) 0 0 (jA E)
def jSv (l : Launch) (E : jE) (y : MethodName) (cc : ByteArray) (mL : Nat) (ret : Option FieldType) (f L : Nat) (as : List Value) (I : jM) (K : jM → Prop) : Prop :=
  Met l y (.code y cc mL ret :: jtbl) ({ frames := f, cells := 0, slots := 0, locals := L } : Room) (va_Pc as (jB E I)) (va_Qv K (jB E) (jA E)) 0 0 (jA E)
def jSr (l : Launch) (E : jE) (y : MethodName) (cc : ByteArray) (mL : Nat) (ret : Option FieldType) (f L : Nat) (as : List Value) (I : jM) (K : Nat → jM → Prop) : Prop :=
  Met l y (.code y cc mL ret :: jtbl) ({ frames := f, cells := 0, slots := 0, locals := L } : Room) (va_Pc as (jB E I)) (va_Qr (fun u : Nat × jM => K u.1 u.2) (fun u a t => a = E.2.2.1 u.1 ∧ jB E u.2 t) (jA E)) 0 0 (jA E)
def jQi (Z : jZ) (E : jE) (K : Int32 → jM → Prop) : State → Prop := MQ (jZb Z) (va_Qi K (jB E) (jA E)) (jZa Z) (jZs Z) 0 0 (jA E)
def jQv (Z : jZ) (E : jE) (K : jM → Prop) : State → Prop := MQ (jZb Z) (va_Qv K (jB E) (jA E)) (jZa Z) (jZs Z) 0 0 (jA E)
def jQr (Z : jZ) (E : jE) (K : Nat → jM → Prop) : State → Prop := MQ (jZb Z) (va_Qr (fun u : Nat × jM => K u.1 u.2) (fun u a t => a = E.2.2.1 u.1 ∧ jB E u.2 t) (jA E)) (jZa Z) (jZs Z) 0 0 (jA E)
theorem jgood {w : Cond} (h : w ∈ jtbl) : (w.onTables && w.keeps) = true ∨ ∃ ty, w = .arrayClass ty := good_of_word (List.mem_filter.mp h).2
theorem jgoodIn {y : MethodName} {cc : ByteArray} {mL : Nat} {ret : Option FieldType} (h : Cond.code y cc mL ret ∈ jtbl) : GoodIn jtbl (.code y cc mL ret :: jtbl) := fun w hw => by
  rcases List.mem_cons.mp hw with e | hw
  · rw [e]; exact ⟨h, jgood h⟩
  · exact ⟨hw, jgood hw⟩
section JS
variable {l : Launch} {E : jE} {y : MethodName} {cc : ByteArray} {mL f L : Nat} {ret : Option FieldType} {as : List Value} {I : jM} {own : String}
theorem jS_of {Qc : Array Value → State → Outcome → State → Prop} (hy : plainName y.cls = true) (hown : y.cls = own) (hok : jOK E) (hlen : (lg_sl as).length ≤ mL)
    (body : ∀ Z : jZ, jZl Z = l → jC Z E cc mL own f L → (jZh Z).sig.returnType = ret → jJ Z E mL (MQ (jZb Z) Qc (jZa Z) (jZs Z) 0 0 (jA E)) 0 (lv_args 0 as) [] I) :
    Met l y (.code y cc mL ret :: jtbl) ({ frames := f, cells := 0, slots := 0, locals := L } : Room) (va_Pc as (jB E I)) Qc 0 0 (jA E) := by
  refine Met.ofW (cc := cc) (maxL := mL) (ret := ret) hy rfl ?_
  intro p e s m args below meth c s₁ B hml hv
  obtain ⟨rfl, hP, hK, hN⟩ := hv
  have hts := atoms_spec (ws := .code y cc mL ret :: jtbl) B.pre
  have ho : s.vm.findClass own = some m.cls := hown ▸ findClass_of_methodNamed B.named
  have hl := lv_entry as (n := mL) hlen
  rw [lg_entry_eq]
  exact body (p, l, e, (headSpec (.code y cc mL ret :: jtbl) ({ frames := f, cells := 0, slots := 0, locals := L } : Room)).room, s, m, as.toArray, below, meth, c) rfl ⟨B.exec, B.bytes, hml, ho, fun w hw => hts w (List.mem_cons_of_mem _ hw), hK, hN, hok, B.notSynchronized, Nat.le_refl _, Nat.le_refl _⟩ B.returns _ s.heap [] hl hP va_S.rf
end JS
section JR2
variable {Z : jZ} {E : jE} {cc : ByteArray} {nL : Nat} {own : String} {fR lR : Nat} {Q : State → Prop} {pc : Nat} {lv : List (Nat × Value)} {st : List Value} {I : jM}
theorem j_iret (C : jC Z E cc nL own fR lR) (hr : (jZh Z).sig.returnType = some .int) {K : Int32 → jM → Prop} {v : Int32} (d : decode cc pc = .ok (.ireturn, 1)) (h : K v I) : jJ Z E nL (jQi Z E K) pc lv [.int v] I := fun ls H locs hl hP hS =>
  W.iret C.x C.b hr (fun t ht hW => ⟨⟨v, I, rfl, h, by rw [ht]; exact hP, va_K.moved hW.alike C.K, C.N.warm hW⟩, hS.F ht⟩) hS.2.2 d C.lk
theorem j_zret (C : jC Z E cc nL own fR lR) (hr : (jZh Z).sig.returnType = some .boolean) {K : Int32 → jM → Prop} {v : Int32} (hn : narrow .boolean (.int v) = .int v) (d : decode cc pc = .ok (.ireturn, 1)) (h : K v I) : jJ Z E nL (jQi Z E K) pc lv [.int v] I := fun ls H locs hl hP hS =>
  W.zret C.x C.b hr hn (fun t ht hW => ⟨⟨v, I, rfl, h, by rw [ht]; exact hP, va_K.moved hW.alike C.K, C.N.warm hW⟩, hS.F ht⟩) hS.2.2 d C.lk
theorem j_vret (C : jC Z E cc nL own fR lR) (hr : (jZh Z).sig.returnType = none) {K : jM → Prop} (d : decode cc pc = .ok (.return_, 1)) (h : K I) : jJ Z E nL (jQv Z E K) pc lv [] I := fun ls H locs hl hP hS =>
  W.vret C.x C.b hr (fun t ht hW => ⟨⟨I, rfl, h, by rw [ht]; exact hP, va_K.moved hW.alike C.K, C.N.warm hW⟩, hS.F ht⟩) hS.2.2 d C.lk
theorem j_aret (C : jC Z E cc nL own fR lR) {n : String} (hr : (jZh Z).sig.returnType = some (.object n)) {K : Nat → jM → Prop} {v : Nat} (d : decode cc pc = .ok (.areturn, 1)) (h : K v I) : jJ Z E nL (jQr Z E K) pc lv [.ref (E.2.2.1 v)] I := fun ls H locs hl hP hS =>
  W.aret C.x C.b hr (Or.inl ⟨n, rfl⟩) (Or.inr ⟨_, rfl⟩) (fun t ht hW => ⟨⟨(v, I), _, rfl, h, rfl, by rw [ht]; exact hP, va_K.moved hW.alike C.K, C.N.warm hW⟩, hS.F ht⟩) hS.2.2 d C.lk
/-- what a call needs of the tables -/
def jcw (own : String) (idx : Nat) (y : MethodName) (bytes : ByteArray) (mL : Nat) (ret : Option FieldType) (n : Nat) : Prop :=
  Cond.code y bytes mL ret ∈ jtbl ∧ Cond.methodLink own idx y ∈ jtbl ∧ Cond.initialized y.cls ∈ jtbl ∧ (y.cls ≠ "java/lang/invoke/MethodHandle" ∧ y.cls ≠ "java/lang/invoke/VarHandle") ∧ (parseMethodDescriptor y.desc).map (fun d => d.parameters.length) = some n
theorem jcw_B (C : jC Z E cc nL own fR lR) {idx : Nat} {y : MethodName} {bytes : ByteArray} {mL n f L : Nat} {ret : Option FieldType} (w : jcw own idx y bytes mL ret n) (hf : f + 1 ≤ fR) (hl : 8 + (mL + 11) + L ≤ lR) : CallB (jZR Z) (jZs Z) (jZa Z) own idx y bytes mL ret (.code y bytes mL ret :: jtbl) ({ frames := f, cells := 0, slots := 0, locals := L } : Room) 0 0 n := by
  refine ⟨rfl, rfl, Nat.le_trans hf C.fr, Nat.le_trans hl C.lo, pay_in C.ts (jgoodIn w.1), List.mem_cons_self, C.ts _ w.1, C.ts _ w.2.2.1, w.2.2.2.1, fun sig h => ?_, C.ts _ w.2.1⟩
  have h2 := w.2.2.2.2
  rw [h] at h2
  exact (Option.some.inj h2).symm
theorem j_preV (C : jC Z E cc nL own fR lR) {H : Heap} {ci : Nat} {Cn : String} {F : u_T} {N : Nat} {ty : Nat → FieldType} (hc : jcl ci Cn F N ty) {b : Nat} (hb : jOB E ci b) (hP : va_P E.1 jCl (jworld E I) H) (As : List Value) : PreV (jZs Z) H Cn (E.2.2.1 b) (va_Pc (.ref (E.2.2.1 b) :: As) (jB E I)) As := by
  obtain ⟨q, hq0⟩ := jmem_get hb.1
  have he := jworld_get (I := I) hq0
  rw [jcell_obj hb.2 hc.2.2.1 hc.2.2.2.1 hc.2.2.2.2.1] at he
  exact ⟨jB_blind E I _, va_recv C.K hP hc.1 he, fun U hU hW => ⟨rfl, by rw [hU]; exact hP, va_K.moved hW.alike C.K, C.N.warm hW⟩⟩
theorem j_preS (C : jC Z E cc nL own fR lR) {H : Heap} (hP : va_P E.1 jCl (jworld E I) H) (As : List Value) : PreS (jZs Z) H (va_Pc As (jB E I)) As :=
  ⟨jB_blind E I _, fun U hU hW => ⟨rfl, by rw [hU]; exact hP, va_K.moved hW.alike C.K, C.N.warm hW⟩⟩
theorem j_callVi (C : jC Z E cc nL own fR lR) {ci : Nat} {Cn : String} {F : u_T} {N : Nat} {ty : Nat → FieldType} (hc : jcl ci Cn F N ty) {idx : Nat} {y : MethodName} {bytes : ByteArray} {mL n f L : Nat} {ret : Option FieldType} (w : jcw own idx y bytes mL ret n) (hin : Cond.instanceMethod y ∈ jtbl) (hse : Cond.selects Cn y y ∈ jtbl) {b : Nat} {As st0 : List Value} {K : Int32 → jM → Prop} (hb : jOB E ci b) (hn : As.length = n) (hst : st0 = As.reverse ++ Value.ref (E.2.2.1 b) :: st) (hf : f + 1 ≤ fR) (hl : 8 + (mL + 11) + L ≤ lR) (hW : (st.map fun v => v.category).sum ≤ 8) (d : decode cc pc = .ok (.invokevirtual idx, 3))
    (hM : jSi (jZl Z) E y bytes mL ret f L (.ref (E.2.2.1 b) :: As) I K) (h : ∀ r I', K r I' → jJ Z E nL Q (pc + 3) lv (.int r :: st) I') : jJ Z E nL Q pc lv st0 I := fun ls H locs hlv hP hS =>
  va_calli (va_runV (As := As) (rest := st) ⟨C.x, C.b, C.ml, C.own, C.ts⟩ hM ⟨jcw_B C w hf hl, C.ts _ hin, C.ts _ hse⟩ (j_preV C hc hb hP As) rfl hn hlv.1 hst (by show 2 * 0 + _ ≤ 8; omega) d ⟨Nat.zero_le _, Nat.zero_le _⟩) hS (fun q _ h => h) (fun q h => h) (fun r u t H1 locs1 ht _ hw hB _ _ hS1 => h r u hw ls H1 locs1 hlv (by rw [← ht]; exact hB.1) hS1)
theorem j_callVv (C : jC Z E cc nL own fR lR) {ci : Nat} {Cn : String} {F : u_T} {N : Nat} {ty : Nat → FieldType} (hc : jcl ci Cn F N ty) {idx : Nat} {y : MethodName} {bytes : ByteArray} {mL n f L : Nat} {ret : Option FieldType} (w : jcw own idx y bytes mL ret n) (hin : Cond.instanceMethod y ∈ jtbl) (hse : Cond.selects Cn y y ∈ jtbl) {b : Nat} {As st0 : List Value} {K : jM → Prop} (hb : jOB E ci b) (hn : As.length = n) (hst : st0 = As.reverse ++ Value.ref (E.2.2.1 b) :: st) (hf : f + 1 ≤ fR) (hl : 8 + (mL + 11) + L ≤ lR) (hW : (st.map fun v => v.category).sum ≤ 8) (d : decode cc pc = .ok (.invokevirtual idx, 3))
    (hM : jSv (jZl Z) E y bytes mL ret f L (.ref (E.2.2.1 b) :: As) I K) (h : ∀ I', K I' → jJ Z E nL Q (pc + 3) lv st I') : jJ Z E nL Q pc lv st0 I := fun ls H locs hlv hP hS =>
  va_callv (va_runV (As := As) (rest := st) ⟨C.x, C.b, C.ml, C.own, C.ts⟩ hM ⟨jcw_B C w hf hl, C.ts _ hin, C.ts _ hse⟩ (j_preV C hc hb hP As) rfl hn hlv.1 hst (by show 2 * 0 + _ ≤ 8; omega) d ⟨Nat.zero_le _, Nat.zero_le _⟩) hS (fun q _ h => h) (fun q h => h) (fun u t H1 locs1 ht _ hw hB _ _ hS1 => h u hw ls H1 locs1 hlv (by rw [← ht]; exact hB.1) hS1)
theorem j_callVr (C : jC Z E cc nL own fR lR) {ci : Nat} {Cn : String} {F : u_T} {N : Nat} {ty : Nat → FieldType} (hc : jcl ci Cn F N ty) {idx : Nat} {y : MethodName} {bytes : ByteArray} {mL n f L : Nat} {ret : Option FieldType} (w : jcw own idx y bytes mL ret n) (hin : Cond.instanceMethod y ∈ jtbl) (hse : Cond.selects Cn y y ∈ jtbl) {b : Nat} {As st0 : List Value} {K : Nat → jM → Prop} (hb : jOB E ci b) (hn : As.length = n) (hst : st0 = As.reverse ++ Value.ref (E.2.2.1 b) :: st) (hf : f + 1 ≤ fR) (hl : 8 + (mL + 11) + L ≤ lR) (hW : (st.map fun v => v.category).sum ≤ 8) (d : decode cc pc = .ok (.invokevirtual idx, 3))
    (hM : jSr (jZl Z) E y bytes mL ret f L (.ref (E.2.2.1 b) :: As) I K) (h : ∀ k I', K k I' → jJ Z E nL Q (pc + 3) lv (.ref (E.2.2.1 k) :: st) I') : jJ Z E nL Q pc lv st0 I := fun ls H locs hlv hP hS =>
  va_callr (va_runV (As := As) (rest := st) ⟨C.x, C.b, C.ml, C.own, C.ts⟩ hM ⟨jcw_B C w hf hl, C.ts _ hin, C.ts _ hse⟩ (j_preV C hc hb hP As) rfl hn hlv.1 hst (by show 2 * 0 + _ ≤ 8; omega) d ⟨Nat.zero_le _, Nat.zero_le _⟩) hS (fun q _ h => h) (fun q h => h) (fun u ra t H1 locs1 ht _ hw hB _ _ hS1 => by obtain ⟨rfl, hB⟩ := hB; exact h u.1 u.2 hw ls H1 locs1 hlv (by rw [← ht]; exact hB.1) hS1)
theorem j_callSi (C : jC Z E cc nL own fR lR) {idx : Nat} {y : MethodName} {bytes : ByteArray} {mL n f L : Nat} {ret : Option FieldType} (w : jcw own idx y bytes mL ret n) (hstat : Cond.static y ∈ jtbl) {As st0 : List Value} {K : Int32 → jM → Prop} (hn : As.length = n) (hst : st0 = As.reverse ++ st) (hf : f + 1 ≤ fR) (hl : 8 + (mL + 11) + L ≤ lR) (hW : (st.map fun v => v.category).sum ≤ 8) (d : decode cc pc = .ok (.invokestatic idx, 3))
    (hM : jSi (jZl Z) E y bytes mL ret f L As I K) (h : ∀ r I', K r I' → jJ Z E nL Q (pc + 3) lv (.int r :: st) I') : jJ Z E nL Q pc lv st0 I := fun ls H locs hlv hP hS =>
  va_calli (va_runS (As := As) (rest := st) ⟨C.x, C.b, C.ml, C.own, C.ts⟩ hM ⟨jcw_B C w hf hl, C.ts _ hstat⟩ (j_preS C hP As) rfl hn hlv.1 hst (by show 2 * 0 + _ ≤ 8; omega) d ⟨Nat.zero_le _, Nat.zero_le _⟩) hS (fun q _ h => h) (fun q h => h) (fun r u t H1 locs1 ht _ hw hB _ _ hS1 => h r u hw ls H1 locs1 hlv (by rw [← ht]; exact hB.1) hS1)
theorem j_callSv (C : jC Z E cc nL own fR lR) {idx : Nat} {y : MethodName} {bytes : ByteArray} {mL n f L : Nat} {ret : Option FieldType} (w : jcw own idx y bytes mL ret n) (hstat : Cond.static y ∈ jtbl) {As st0 : List Value} {K : jM → Prop} (hn : As.length = n) (hst : st0 = As.reverse ++ st) (hf : f + 1 ≤ fR) (hl : 8 + (mL + 11) + L ≤ lR) (hW : (st.map fun v => v.category).sum ≤ 8) (d : decode cc pc = .ok (.invokestatic idx, 3))
    (hM : jSv (jZl Z) E y bytes mL ret f L As I K) (h : ∀ I', K I' → jJ Z E nL Q (pc + 3) lv st I') : jJ Z E nL Q pc lv st0 I := fun ls H locs hlv hP hS =>
  va_callv (va_runS (As := As) (rest := st) ⟨C.x, C.b, C.ml, C.own, C.ts⟩ hM ⟨jcw_B C w hf hl, C.ts _ hstat⟩ (j_preS C hP As) rfl hn hlv.1 hst (by show 2 * 0 + _ ≤ 8; omega) d ⟨Nat.zero_le _, Nat.zero_le _⟩) hS (fun q _ h => h) (fun q h => h) (fun u t H1 locs1 ht _ hw hB _ _ hS1 => h u hw ls H1 locs1 hlv (by rw [← ht]; exact hB.1) hS1)
theorem j_copy (C : jC Z E cc nL own fR lR) {idx a b na nb : Nat} {sp dp n : Int32} (ha : jAI E na a) (hb : jAI E nb b) (hlink : Cond.methodLink own idx arraycopyName ∈ jtbl) (hnat : Cond.native arraycopyName ∈ jtbl) (hstat : Cond.static arraycopyName ∈ jtbl) (hini : Cond.initialized "java/lang/System" ∈ jtbl) (h1 : ¬ sp < 0) (h2 : ¬ dp < 0) (h3 : ¬ n < 0) (h4 : sp.toNatClampNeg + n.toNatClampNeg ≤ na) (h5 : dp.toNatClampNeg + n.toNatClampNeg ≤ nb) (hf : 1 ≤ fR) (hl : (st.map fun v => v.category).sum + (nativeFrameWords "java/lang/System" "arraycopy" 5 + 11) ≤ lR) (d : decode cc pc = .ok (.invokestatic idx, 3))
    (h : jJ Z E nL Q (pc + 3) lv st (jrow I b (va_cpy (I a) (I b) sp.toNatClampNeg dp.toNatClampNeg n.toNatClampNeg))) : jJ Z E nL Q pc lv (.int n :: .int dp :: .ref (E.2.2.1 b) :: .int sp :: .ref (E.2.2.1 a) :: st) I := fun ls H locs hlv hP hS => by
  obtain ⟨qa, hqa⟩ := jmem_get ha.1
  have hea := jworld_get (I := I) hqa
  rw [jcell_int ha.2.1, ha.2.2] at hea
  obtain ⟨qb, hqb⟩ := jmem_get hb.1
  have heb := jworld_get (I := I) hqb
  rw [jcell_int hb.2.1, hb.2.2] at heb
  refine va_copyi C.x C.b (C.ml.trans hlv.1.symm) C.own (C.ts _ hlink) (C.ts _ hnat) (C.ts _ hstat) (C.ts _ hini) C.K hP (jworld_D C.ok I) hS qa qb 0 0 (ty := .int) hea heb rfl rfl rfl h1 h2 h3 h4 h5 (fun _ _ => rfl) (Nat.le_trans hf C.fr) (Nat.le_trans hl C.lo) d (fun H1 locs1 hP1 _ hS1 => ?_)
  refine h ls H1 locs1 hlv (jP_set C.ok hqb (I' := jrow I b (va_cpy (I a) (I b) sp.toNatClampNeg dp.toNatClampNeg n.toNatClampNeg)) (fun x hx => jrow_ne hx) ?_ hP1) hS1
  rw [jcell_int hb.2.1, hb.2.2, jrow_same]
end JR2
/-- loops: the least fixed point; a walk is closed under it at once, a proof goes by a measure -/
def lp {σ : Type} (F : (σ → Prop) → σ → Prop) (s : σ) : Prop := ∀ X : σ → Prop, (∀ t, F X t → X t) → X s
theorem lp_i {σ : Type} {F : (σ → Prop) → σ → Prop} (V : σ → Prop) (μ : σ → Nat) (h : ∀ (t : σ) (X : σ → Prop), V t → (∀ t', V t' → μ t' < μ t → X t') → F X t) {s : σ} (hs : V s) : lp F s := by
  intro X hX
  have key : ∀ n t, V t → μ t < n → X t := by
    intro n
    induction n with
    | zero => intro t _ hn; exact absurd hn (Nat.not_lt_zero _)
    | succ n ih => intro t ht hn; exact hX t (h t X ht (fun t' ht' hlt => ih t' ht' (by omega)))
  exact key (μ s + 1) s hs (Nat.lt_succ_self _)
