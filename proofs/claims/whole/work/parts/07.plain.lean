/-- a contract out of a walk, also for a method of java.lang.Math that no native row stands for -/
theorem jMet_ofW {l : Launch} {y : MethodName} {ws ws' : List Cond} {rm : Room} {Pc : Array Value → State → Prop} {Qc : Array Value → State → Outcome → State → Prop} {mc ms : Nat} {free : Addr → Prop} {cc : ByteArray} {maxL : Nat} {ret : Option FieldType}
    (hy : plainFor y = true) (hw : ws = Cond.code y cc maxL ret :: ws')
    (body : ∀ p e s m args below meth c s₁, BodyLoose p l y (headSpec ws rm) cc maxL ret e s m args below meth c s₁ → c.maxLocals = maxL → Pc args s →
      W p l e (headSpec ws rm).room s m args below meth c s.heap [] 0 0 (MQ below Qc args s mc ms free) (entryFrame m args maxL)) : Met l y ws rm Pc Qc mc ms free := by
  refine MetFree.of_bodySF (code := cc) (maxLocals := maxL) (ret := ret) hy ?_ ?_
  · intro args s m h hn
    obtain ⟨meth, c, h1, h2, h3, h4, h5, h6, -, -⟩ := Cond.code_spec hn (atoms_spec (ws := ws) h _ (by rw [hw]; exact List.mem_cons_self))
    exact ⟨meth, c, h1, h2, h3, h4, h5, h6⟩
  · intro p e s m args below meth c s₁ B hml hP _
    have hh0 : s₁.heap = s.heap := by rw [B.state]; rfl
    obtain ⟨t, a1, o, b1, b2, b3⟩ := body p e s m args below meth c s₁ B hml hP s₁ hh0 (Stand.of_body B)
    exact ⟨t, o, a1, b1, b2, ⟨b3.1, b3.2⟩⟩
section JS
variable {l : Launch} {E : jE} {y : MethodName} {cc : ByteArray} {mL f L : Nat} {ret : Option FieldType} {as : List Value} {I : jM} {own : String}
theorem jS_ofF {Qc : Array Value → State → Outcome → State → Prop} (hy : plainFor y = true) (hown : y.cls = own) (hok : jOK E) (hlen : (lg_sl as).length ≤ mL)
    (body : ∀ Z : jZ, jZl Z = l → jC Z E cc mL own f L → (jZh Z).sig.returnType = ret → jJ Z E mL (MQ (jZb Z) Qc (jZa Z) (jZs Z) 0 0 (jA E)) 0 (lv_args 0 as) [] I) :
    Met l y (.code y cc mL ret :: jtbl) ({ frames := f, cells := 0, slots := 0, locals := L } : Room) (va_Pc as (jB E I)) Qc 0 0 (jA E) := by
  refine jMet_ofW (cc := cc) (maxL := mL) (ret := ret) hy rfl ?_
  intro p e s m args below meth c s₁ B hml hv
  obtain ⟨rfl, hP, hK, hN⟩ := hv
  have hts := atoms_spec (ws := .code y cc mL ret :: jtbl) B.pre
  have ho : s.vm.findClass own = some m.cls := hown ▸ findClass_of_methodNamed B.named
  have hl := lv_entry as (n := mL) hlen
  rw [lg_entry_eq]
  exact body (p, l, e, (headSpec (.code y cc mL ret :: jtbl) ({ frames := f, cells := 0, slots := 0, locals := L } : Room)).room, s, m, as.toArray, below, meth, c) rfl ⟨B.exec, B.bytes, hml, ho, fun w hw => hts w (List.mem_cons_of_mem _ hw), hK, hN, hok, B.notSynchronized, Nat.le_refl _, Nat.le_refl _⟩ B.returns _ s.heap [] hl hP va_S.rf
end JS
