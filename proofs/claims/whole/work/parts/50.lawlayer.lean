/-! ===== THE LAW'S OWN LAYER: two memories side by side, the system's (IX) and the reference's (IM) ===== -/
abbrev lY : Type := va_G × (ClassId × ClassId × ClassId) × (Nat → Nat)
abbrev lX (Y : lY) : jE := (Y.1, Y.2.1, Y.2.2, jLX)
abbrev lM (Y : lY) : jE := (Y.1, Y.2.1, Y.2.2, jLM)
def lA (Z : jZ) : Nat → Prop := fun q => (jZs Z).heap.size ≤ q
def lC (Z : jZ) (Y : lY) (b L : Nat) (xs : Nat → Int32) : Prop :=
  (jZp Z).tables.exec = Jvm.exec ∧ (jZc Z).code = code ∧ (jZh Z).sig.returnType = ret ∧ (jZc Z).maxLocals = 4 ∧ (jZs Z).vm.findClass "OutOrderLaw" = some (jZm Z).cls ∧ (∀ w ∈ lw_tbl, w.before (jZa Z) (jZs Z) = true) ∧ va_X b L xs (jZs Z) (jZs Z).heap ∧ b < (jZs Z).heap.size ∧ (jZh Z).locks = false
  ∧ va_K Y.1 jCl (jtys (lX Y)) (jZs Z) ∧ jN (jZs Z) ∧ jOK (lX Y) ∧ jOK (lM Y) ∧ (∀ i ∈ jLX, ∀ j ∈ jLM, Y.2.2 i ≠ Y.2.2 j) ∧ (∀ i, i ∈ jLX ∨ i ∈ jLM → (jZs Z).heap.size ≤ Y.2.2 i) ∧ jZR Z = room_1
theorem lC.x {Z Y b L xs} (C : lC Z Y b L xs) : (jZp Z).tables.exec = Jvm.exec := C.1
theorem lC.b {Z Y b L xs} (C : lC Z Y b L xs) : (jZc Z).code = code := C.2.1
theorem lC.r {Z Y b L xs} (C : lC Z Y b L xs) : (jZh Z).sig.returnType = ret := C.2.2.1
theorem lC.ml {Z Y b L xs} (C : lC Z Y b L xs) : (jZc Z).maxLocals = 4 := C.2.2.2.1
theorem lC.own {Z Y b L xs} (C : lC Z Y b L xs) : (jZs Z).vm.findClass "OutOrderLaw" = some (jZm Z).cls := C.2.2.2.2.1
theorem lC.ts {Z Y b L xs} (C : lC Z Y b L xs) : ∀ w ∈ lw_tbl, w.before (jZa Z) (jZs Z) = true := C.2.2.2.2.2.1
theorem lC.X {Z Y b L xs} (C : lC Z Y b L xs) : va_X b L xs (jZs Z) (jZs Z).heap := C.2.2.2.2.2.2.1
theorem lC.bl {Z Y b L xs} (C : lC Z Y b L xs) : b < (jZs Z).heap.size := C.2.2.2.2.2.2.2.1
theorem lC.lk {Z Y b L xs} (C : lC Z Y b L xs) : (jZh Z).locks = false := C.2.2.2.2.2.2.2.2.1
theorem lC.K {Z Y b L xs} (C : lC Z Y b L xs) : va_K Y.1 jCl (jtys (lX Y)) (jZs Z) := C.2.2.2.2.2.2.2.2.2.1
theorem lC.N {Z Y b L xs} (C : lC Z Y b L xs) : jN (jZs Z) := C.2.2.2.2.2.2.2.2.2.2.1
theorem lC.okX {Z Y b L xs} (C : lC Z Y b L xs) : jOK (lX Y) := C.2.2.2.2.2.2.2.2.2.2.2.1
theorem lC.okM {Z Y b L xs} (C : lC Z Y b L xs) : jOK (lM Y) := C.2.2.2.2.2.2.2.2.2.2.2.2.1
theorem lC.ap {Z Y b L xs} (C : lC Z Y b L xs) : ∀ i ∈ jLX, ∀ j ∈ jLM, Y.2.2 i ≠ Y.2.2 j := C.2.2.2.2.2.2.2.2.2.2.2.2.2.1
theorem lC.hi {Z Y b L xs} (C : lC Z Y b L xs) : ∀ i, i ∈ jLX ∨ i ∈ jLM → (jZs Z).heap.size ≤ Y.2.2 i := C.2.2.2.2.2.2.2.2.2.2.2.2.2.2.1
theorem lC.R {Z Y b L xs} (C : lC Z Y b L xs) : jZR Z = room_1 := C.2.2.2.2.2.2.2.2.2.2.2.2.2.2.2
def lJ (Z : jZ) (Y : lY) (kc ks : Nat) (Q : State → Prop) (pc : Nat) (lv : List (Nat × Value)) (st : List Value) (IX IM : jM) : Prop :=
  ∀ (ls : Array Slot) (H : Heap) (locs : List Loc), lv_has ls 4 lv → va_P Y.1 jCl (jworld (lX Y) IX) H → va_P Y.1 jCl (jworld (lM Y) IM) H → va_S (lA Z) (jZs Z).heap H locs → W (jZp Z) (jZl Z) (jZe Z) (jZR Z) (jZs Z) (jZm Z) (jZa Z) (jZb Z) (jZh Z) (jZc Z) H locs kc ks Q (F0 (jZm Z) pc ls st)
section LR
variable {Z : jZ} {Y : lY} {b L : Nat} {xs : Nat → Int32} {kc ks : Nat} {Q : State → Prop} {pc : Nat} {lv : List (Nat × Value)} {st : List Value} {IX IM : jM}
theorem l_iconst (C : lC Z Y b L xs) {n : Int} {v : Int32} (d : decode code pc = .ok (.iconst n, 1)) (hv : Int32.ofInt n = v) (h : lJ Z Y kc ks Q (pc + 1) lv (.int v :: st) IX IM) : lJ Z Y kc ks Q pc lv st IX IM := fun ls H locs hl hP hM hS => lv_iconst C.x C.b d hv (h ls H locs hl hP hM hS)
theorem l_bipush (C : lC Z Y b L xs) {n : Int} {v : Int32} (d : decode code pc = .ok (.bipush n, 2)) (hv : (Int8.ofInt n).toInt32 = v) (h : lJ Z Y kc ks Q (pc + 2) lv (.int v :: st) IX IM) : lJ Z Y kc ks Q pc lv st IX IM := fun ls H locs hl hP hM hS => lv_bipush C.x C.b d hv (h ls H locs hl hP hM hS)
theorem l_iload_n (C : lC Z Y b L xs) {k : Fin 4} {i : Nat} {x : Int32} (d : decode code pc = .ok (.iload_n k, 1)) (hi : (k : Nat) = i) (n : Nat) (hn : lv[n]? = some (i, .int x)) (h : lJ Z Y kc ks Q (pc + 1) lv (.int x :: st) IX IM) : lJ Z Y kc ks Q pc lv st IX IM := fun ls H locs hl hP hM hS => lv_iload_n C.x C.b d hi (lv_at hl n hn) (h ls H locs hl hP hM hS)
theorem l_aload_n (C : lC Z Y b L xs) {k : Fin 4} {i : Nat} {x : Nat} (d : decode code pc = .ok (.aload_n k, 1)) (hi : (k : Nat) = i) (n : Nat) (hn : lv[n]? = some (i, .ref x)) (h : lJ Z Y kc ks Q (pc + 1) lv (.ref x :: st) IX IM) : lJ Z Y kc ks Q pc lv st IX IM := fun ls H locs hl hP hM hS => lv_aload_n C.x C.b d hi (lv_at hl n hn) (h ls H locs hl hP hM hS)
theorem l_iadd (C : lC Z Y b L xs) {x y : Int32} (d : decode code pc = .ok (.iadd, 1)) (h : lJ Z Y kc ks Q (pc + 1) lv (.int (x + y) :: st) IX IM) : lJ Z Y kc ks Q pc lv (.int y :: .int x :: st) IX IM := fun ls H locs hl hP hM hS => lv_iadd C.x C.b d (h ls H locs hl hP hM hS)
theorem l_isub (C : lC Z Y b L xs) {x y : Int32} (d : decode code pc = .ok (.isub, 1)) (h : lJ Z Y kc ks Q (pc + 1) lv (.int (x - y) :: st) IX IM) : lJ Z Y kc ks Q pc lv (.int y :: .int x :: st) IX IM := fun ls H locs hl hP hM hS => lv_isub C.x C.b d (h ls H locs hl hP hM hS)
theorem l_iand (C : lC Z Y b L xs) {x y : Int32} (d : decode code pc = .ok (.iand, 1)) (h : lJ Z Y kc ks Q (pc + 1) lv (.int (x &&& y) :: st) IX IM) : lJ Z Y kc ks Q pc lv (.int y :: .int x :: st) IX IM := fun ls H locs hl hP hM hS => lv_iand C.x C.b d (h ls H locs hl hP hM hS)
theorem l_iinc (C : lC Z Y b L xs) {i : Nat} {n : Int} {x v : Int32} (d : decode code pc = .ok (.iinc i n, 3)) (k : Nat) (hk : lv[k]? = some (i, .int x)) (hv : x + Int32.ofInt n = v) (hn : i < 4) {lv' : List (Nat × Value)} (hl' : (i, Value.int v) :: lv.filter (fun q => !(q.1 == i) && !(q.1 + 1 == i && q.2.category == 2)) = lv') (h : lJ Z Y kc ks Q (pc + 3) lv' st IX IM) : lJ Z Y kc ks Q pc lv st IX IM := fun ls H locs hl hP hM hS => lv_iinc C.x C.b d hl hk hv hn hl' (fun ls' hl2 => h ls' H locs hl2 hP hM hS)
theorem l_goto (C : lC Z Y b L xs) {off : Int} {tgt : Nat} (d : decode code pc = .ok (.goto off, 3)) (ht : (pc : Int) + off = (tgt : Int)) (h : lJ Z Y kc ks Q tgt lv st IX IM) : lJ Z Y kc ks Q pc lv st IX IM := fun ls H locs hl hP hM hS => lv_goto C.x C.b d ht (h ls H locs hl hP hM hS)
theorem l_lv {lv' : List (Nat × Value)} (ks' : List Nat) (hk : lv_pick lv ks' = lv') (h : lJ Z Y kc ks Q pc lv' st IX IM) : lJ Z Y kc ks Q pc lv st IX IM := fun ls H locs hl hP hM hS => h ls H locs (lv_sub hl ks' hk) hP hM hS
theorem l_icmp_eq (C : lC Z Y b L xs) {x y : Int32} {off : Int} {tgt : Nat} (d : decode code pc = .ok (.if_icmp .eq off, 3)) (ht : (pc : Int) + off = (tgt : Int)) (he : x = y) (h : lJ Z Y kc ks Q tgt lv st IX IM) : lJ Z Y kc ks Q pc lv (.int y :: .int x :: st) IX IM := fun ls H locs hl hP hM hS => lv_icmp_eq C.x C.b d ht (fun _ => h ls H locs hl hP hM hS) (fun q => absurd he q)
theorem l_icmp_gt (C : lC Z Y b L xs) {x y : Int32} {off : Int} {tgt : Nat} (d : decode code pc = .ok (.if_icmp .gt off, 3)) (ht : (pc : Int) + off = (tgt : Int)) (kt : y < x → lJ Z Y kc ks Q tgt lv st IX IM) (kf : ¬ y < x → lJ Z Y kc ks Q (pc + 3) lv st IX IM) : lJ Z Y kc ks Q pc lv (.int y :: .int x :: st) IX IM := fun ls H locs hl hP hM hS => lv_icmp_gt C.x C.b d ht (fun q => kt q ls H locs hl hP hM hS) (fun q => kf q ls H locs hl hP hM hS)
theorem l_if_eq (C : lC Z Y b L xs) {x : Int32} {off : Int} {tgt : Nat} (d : decode code pc = .ok (.ifCond .eq off, 3)) (ht : (pc : Int) + off = (tgt : Int)) (kt : x = 0 → lJ Z Y kc ks Q tgt lv st IX IM) (kf : ¬ x = 0 → lJ Z Y kc ks Q (pc + 3) lv st IX IM) : lJ Z Y kc ks Q pc lv (.int x :: st) IX IM := fun ls H locs hl hP hM hS => lv_if_eq C.x C.b d ht (fun q => kt q ls H locs hl hP hM hS) (fun q => kf q ls H locs hl hP hM hS)
theorem l_sld (C : lC Z Y b L xs) {i : Int32} (hi : vp_in i L) (d : decode code pc = .ok (.iaload, 1)) (h : lJ Z Y kc ks Q (pc + 1) lv (.int (xs i.toNatClampNeg) :: st) IX IM) : lJ Z Y kc ks Q pc lv (.int i :: .ref b :: st) IX IM := fun ls H locs hl hP hM hS => va_sld C.x C.b C.X C.bl (Nat.not_le.mpr C.bl) hS hi d (h ls H locs hl hP hM hS)
theorem l_slen (C : lC Z Y b L xs) (d : decode code pc = .ok (.arraylength, 1)) (h : lJ Z Y kc ks Q (pc + 1) lv (.int (nI L) :: st) IX IM) : lJ Z Y kc ks Q pc lv (.ref b :: st) IX IM := fun ls H locs hl hP hM hS => va_slen C.x C.b C.X C.bl (Nat.not_le.mpr C.bl) hS d (h ls H locs hl hP hM hS)
theorem l_tableOut (C : lC Z Y b L xs) {dflt lo hi : Int} {offs : Array Int} {len : Nat} {x : Int32} {tgt : Nat} (d : decode code pc = .ok (.tableswitch dflt lo hi offs, len)) (h0 : x.toInt < lo ∨ hi < x.toInt) (ht : (pc : Int) + dflt = (tgt : Int)) (h : lJ Z Y kc ks Q tgt lv st IX IM) : lJ Z Y kc ks Q pc lv (.int x :: st) IX IM := fun ls H locs hl hP hM hS => lv_tableOut C.x C.b d h0 ht (h ls H locs hl hP hM hS)
theorem l_tableIn (C : lC Z Y b L xs) {dflt lo hi : Int} {offs : Array Int} {len : Nat} {x : Int32} {off : Int} {tgt : Nat} (d : decode code pc = .ok (.tableswitch dflt lo hi offs, len)) (h1 : ¬ x.toInt < lo) (h2 : ¬ hi < x.toInt) (ho : offs[(x.toInt - lo).toNat]? = some off) (ht : (pc : Int) + off = (tgt : Int)) (h : lJ Z Y kc ks Q tgt lv st IX IM) : lJ Z Y kc ks Q pc lv (.int x :: st) IX IM := fun ls H locs hl hP hM hS => lv_tableIn C.x C.b d h1 h2 ho ht (h ls H locs hl hP hM hS)
/-- the other's cells stay when one is called -/
theorem l_kept {E1 E2 : jE} {I2 : jM} {H H1 : Heap} (hap : ∀ i ∈ E1.2.2.2, ∀ j ∈ E2.2.2.2, E1.2.2.1 i ≠ E2.2.2.1 j) (hP : va_P E2.1 jCl (jworld E2 I2) H) (hk : ∀ q : Nat, q < H.size → ¬ jA E1 q → H1[q]? = H[q]?) : va_P E2.1 jCl (jworld E2 I2) H1 := hP.kept (fun k x hx => by
  have hlt := (hP k x hx).lt
  obtain ⟨j, hj, rfl⟩ := jworld_inv hx
  exact hk _ hlt (fun ⟨i, hi, e⟩ => hap i hi j (List.mem_of_getElem? hj) e))
theorem l_good {y : MethodName} {cc : ByteArray} {mL : Nat} {ret : Option FieldType} (h : Cond.code y cc mL ret ∈ jtbl) : GoodIn lw_tbl (.code y cc mL ret :: jtbl) := fun w hw => by
  obtain ⟨h1, h2⟩ := jgoodIn h w hw
  exact ⟨(List.mem_filter.mp h1).1, h2⟩
theorem lC.tj (C : lC Z Y b L xs) {w : Cond} (h : w ∈ jtbl) : w.before (jZa Z) (jZs Z) = true := C.ts _ (List.mem_filter.mp h).1
theorem l_cw (C : lC Z Y b L xs) {idx : Nat} {y : MethodName} {bytes : ByteArray} {mL n f Lr : Nat} {ret : Option FieldType} (w : jcw "OutOrderLaw" idx y bytes mL ret n) (hf : f + 1 ≤ 9) (hl : 8 + (mL + 11) + Lr ≤ 322) : CallB (jZR Z) (jZs Z) (jZa Z) "OutOrderLaw" idx y bytes mL ret (.code y bytes mL ret :: jtbl) ({ frames := f, cells := 0, slots := 0, locals := Lr } : Room) 0 0 n := by
  refine ⟨rfl, rfl, by rw [C.R]; exact hf, by rw [C.R]; exact hl, pay_in C.ts (l_good w.1), List.mem_cons_self, C.tj w.1, C.tj w.2.2.1, w.2.2.2.1, fun sig h => ?_, C.tj w.2.1⟩
  have h2 := w.2.2.2.2
  rw [h] at h2
  exact (Option.some.inj h2).symm
theorem l_pre (C : lC Z Y b L xs) {E : jE} {I : jM} (hD : E.1 = Y.1) (hg : E.2.1 = Y.2.1) {H : Heap} {ci : Nat} {Cn : String} {F : u_T} {N : Nat} {ty : Nat → FieldType} (hc : jcl ci Cn F N ty) {b0 : Nat} (hb : jOB E ci b0) (hP : va_P E.1 jCl (jworld E I) H) (As : List Value) : PreV (jZs Z) H Cn (E.2.2.1 b0) (va_Pc (.ref (E.2.2.1 b0) :: As) (jB E I)) As := by
  have hK : va_K E.1 jCl (jtys E) (jZs Z) := by
    have := C.K; unfold jtys at this ⊢; rw [hD, hg]; exact this
  obtain ⟨q, hq0⟩ := jmem_get hb.1
  have he := jworld_get (I := I) hq0
  rw [jcell_obj hb.2 hc.2.2.1 hc.2.2.2.1 hc.2.2.2.2.1] at he
  exact ⟨jB_blind E I _, va_recv hK hP hc.1 he, fun U hU hW => ⟨rfl, by rw [hU]; exact hP, va_K.moved hW.alike hK, C.N.warm hW⟩⟩
theorem l_callX (C : lC Z Y b L xs) {ci : Nat} {Cn : String} {F : u_T} {N : Nat} {ty : Nat → FieldType} (hc : jcl ci Cn F N ty) {idx : Nat} {y : MethodName} {bytes : ByteArray} {mL n f Lr : Nat} {ret : Option FieldType} (w : jcw "OutOrderLaw" idx y bytes mL ret n) (hin : Cond.instanceMethod y ∈ jtbl) (hse : Cond.selects Cn y y ∈ jtbl) {b0 : Nat} {As st0 : List Value} {K : Int32 → jM → Prop} (hb : jOB (lX Y) ci b0) (hn : As.length = n) (hst : st0 = As.reverse ++ Value.ref (Y.2.2 b0) :: st) (hf : f + 1 ≤ 9) (hl : 8 + (mL + 11) + Lr ≤ 322) (hW : (st.map fun v => v.category).sum ≤ 8) (d : decode code pc = .ok (.invokevirtual idx, 3)) (hcs : kc ≤ 600000 ∧ ks ≤ 7302249)
    (hM0 : jSi (jZl Z) (lX Y) y bytes mL ret f Lr (.ref (Y.2.2 b0) :: As) IX K) (h : ∀ r I', K r I' → lJ Z Y kc ks Q (pc + 3) lv (.int r :: st) I' IM) : lJ Z Y kc ks Q pc lv st0 IX IM := fun ls H locs hlv hP hM hS =>
  va_calli (va_runV (As := As) (rest := st) ⟨C.x, C.b, C.ml, C.own, C.ts⟩ hM0 ⟨l_cw C w hf hl, C.tj hin, C.tj hse⟩ (l_pre (E := lX Y) C rfl rfl hc hb hP As) rfl hn hlv.1 hst (by show 2 * 0 + _ ≤ 8; omega) d (by rw [C.R]; exact hcs)) hS (fun q _ h => by obtain ⟨i, hi, rfl⟩ := h; exact C.hi i (Or.inl hi)) (fun q h => by obtain ⟨i, hi, rfl⟩ := h; exact C.hi i (Or.inl hi)) (fun r u t H1 locs1 ht _ hw hB _ hk1 hS1 => h r u hw ls H1 locs1 hlv (by rw [← ht]; exact hB.1) (l_kept (E1 := lX Y) (E2 := lM Y) C.ap hM hk1) hS1)
theorem l_callM (C : lC Z Y b L xs) {ci : Nat} {Cn : String} {F : u_T} {N : Nat} {ty : Nat → FieldType} (hc : jcl ci Cn F N ty) {idx : Nat} {y : MethodName} {bytes : ByteArray} {mL n f Lr : Nat} {ret : Option FieldType} (w : jcw "OutOrderLaw" idx y bytes mL ret n) (hin : Cond.instanceMethod y ∈ jtbl) (hse : Cond.selects Cn y y ∈ jtbl) {b0 : Nat} {As st0 : List Value} {K : Int32 → jM → Prop} (hb : jOB (lM Y) ci b0) (hn : As.length = n) (hst : st0 = As.reverse ++ Value.ref (Y.2.2 b0) :: st) (hf : f + 1 ≤ 9) (hl : 8 + (mL + 11) + Lr ≤ 322) (hW : (st.map fun v => v.category).sum ≤ 8) (d : decode code pc = .ok (.invokevirtual idx, 3)) (hcs : kc ≤ 600000 ∧ ks ≤ 7302249)
    (hM0 : jSi (jZl Z) (lM Y) y bytes mL ret f Lr (.ref (Y.2.2 b0) :: As) IM K) (h : ∀ r I', K r I' → lJ Z Y kc ks Q (pc + 3) lv (.int r :: st) IX I') : lJ Z Y kc ks Q pc lv st0 IX IM := fun ls H locs hlv hP hM hS =>
  va_calli (va_runV (As := As) (rest := st) ⟨C.x, C.b, C.ml, C.own, C.ts⟩ hM0 ⟨l_cw C w hf hl, C.tj hin, C.tj hse⟩ (l_pre (E := lM Y) C rfl rfl hc hb hM As) rfl hn hlv.1 hst (by show 2 * 0 + _ ≤ 8; omega) d (by rw [C.R]; exact hcs)) hS (fun q _ h => by obtain ⟨i, hi, rfl⟩ := h; exact C.hi i (Or.inr hi)) (fun q h => by obtain ⟨i, hi, rfl⟩ := h; exact C.hi i (Or.inr hi)) (fun r u t H1 locs1 ht _ hw hB _ hk1 hS1 => h r u hw ls H1 locs1 hlv (l_kept (E1 := lM Y) (E2 := lX Y) (fun i hi j hj e => C.ap j hj i hi e.symm) hP hk1) (by rw [← ht]; exact hB.1) hS1)
end LR
