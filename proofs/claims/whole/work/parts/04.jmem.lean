/-! ===== the J layer: fields, arrays ===== -/
section JM
variable {Z : jZ} {E : jE} {cc : ByteArray} {nL : Nat} {own : String} {fR lR : Nat} {Q : State → Prop} {pc : Nat} {lv : List (Nat × Value)} {st : List Value} {I : jM}
/-- a cell is given its new row: the world of the new memory -/
theorem jP_set {H1 : Heap} (h : jOK E) {I' : jM} {q i : Nat} (hq : E.2.2.2[q]? = some i) (ho : ∀ a, a ≠ i → I' a = I a) {x : va_E} (hx : x = jcell E.2.1 E.2.2.1 i I') (hP : va_P E.1 jCl ((jworld E I).set q (E.2.2.1 i, x)) H1) : va_P E.1 jCl (jworld E I') H1 := by
  rw [jworld_set h hq ho hx] at hP; exact hP
theorem j_getI (C : jC Z E cc nL own fR lR) {ci : Nat} {Cn ref : String} {F : u_T} {N : Nat} {ty : Nat → FieldType} (hc : jcl ci Cn F N ty) {i k idx : Nat} (hi : jOB E ci i) (hk : k < N) (hq : jq ci k = false) (hF : (F k).1 = ref) (hw : Cond.fieldLink own idx ref (F k).2.1 (F k).2.2.1 ∈ jtbl) (d : decode cc pc = .ok (.getfield idx, 3)) (h : jJ Z E nL Q (pc + 3) lv (.int (I i k) :: st) I) : jJ Z E nL Q pc lv (.ref (E.2.2.1 i) :: st) I := fun ls H locs hl hP hS => by
  obtain ⟨q, hq0⟩ := jmem_get hi.1
  have he := jworld_get (I := I) hq0
  rw [jcell_obj hi.2 hc.2.2.1 hc.2.2.2.1 hc.2.2.2.2.1] at he
  have hv : (jfs E.2.2.1 i I)[k]? = some (Value.int (I i k)) := by
    rw [jfs_get hi.2 (hc.2.1 ▸ hk), hq]; rfl
  exact va_get (D := E.1) (ci := ci) C.x C.b C.ts hc.2.2.2.2.2.1 C.own C.K hP q he hc.1 k hk (C.ts _ hw) (fun x hx => hF ▸ hx) hv d (h ls H locs hl hP hS)
theorem j_getR (C : jC Z E cc nL own fR lR) {ci : Nat} {Cn ref : String} {F : u_T} {N : Nat} {ty : Nat → FieldType} (hc : jcl ci Cn F N ty) {i k idx : Nat} (hi : jOB E ci i) (hk : k < N) (hq : jq ci k = true) (hF : (F k).1 = ref) (hw : Cond.fieldLink own idx ref (F k).2.1 (F k).2.2.1 ∈ jtbl) (d : decode cc pc = .ok (.getfield idx, 3)) (h : jJ Z E nL Q (pc + 3) lv (.ref (E.2.2.1 (jr i k)) :: st) I) : jJ Z E nL Q pc lv (.ref (E.2.2.1 i) :: st) I := fun ls H locs hl hP hS => by
  obtain ⟨q, hq0⟩ := jmem_get hi.1
  have he := jworld_get (I := I) hq0
  rw [jcell_obj hi.2 hc.2.2.1 hc.2.2.2.1 hc.2.2.2.2.1] at he
  have hv : (jfs E.2.2.1 i I)[k]? = some (Value.ref (E.2.2.1 (jr i k))) := by
    rw [jfs_get hi.2 (hc.2.1 ▸ hk), hq]; rfl
  exact va_get (D := E.1) (ci := ci) C.x C.b C.ts hc.2.2.2.2.2.1 C.own C.K hP q he hc.1 k hk (C.ts _ hw) (fun x hx => hF ▸ hx) hv d (h ls H locs hl hP hS)
theorem j_getIN (C : jC Z E cc nL own fR lR) {ci : Nat} {Cn ref host : String} {F : u_T} {N : Nat} {ty : Nat → FieldType} (hc : jcl ci Cn F N ty) {i k idx : Nat} (hi : jOB E ci i) (hk : k < N) (hq : jq ci k = false) (hF : (F k).1 = ref) (hw : Cond.fieldLinkNest own idx ref (F k).2.1 (F k).2.2.1 host ∈ jnst) (d : decode cc pc = .ok (.getfield idx, 3)) (h : jJ Z E nL Q (pc + 3) lv (.int (I i k) :: st) I) : jJ Z E nL Q pc lv (.ref (E.2.2.1 i) :: st) I := fun ls H locs hl hP hS => by
  obtain ⟨q, hq0⟩ := jmem_get hi.1
  have he := jworld_get (I := I) hq0
  rw [jcell_obj hi.2 hc.2.2.1 hc.2.2.2.1 hc.2.2.2.2.1] at he
  have hv : (jfs E.2.2.1 i I)[k]? = some (Value.int (I i k)) := by
    rw [jfs_get hi.2 (hc.2.1 ▸ hk), hq]; rfl
  exact va_getN (D := E.1) (ci := ci) C.x C.b C.ts hc.2.2.2.2.2.1 C.own C.K hP q he hc.1 k hk (va_Nw.use rfl (C.N _ hw)) (fun x hx => hF ▸ hx) hv d (h ls H locs hl hP hS)
theorem j_getRN (C : jC Z E cc nL own fR lR) {ci : Nat} {Cn ref host : String} {F : u_T} {N : Nat} {ty : Nat → FieldType} (hc : jcl ci Cn F N ty) {i k idx : Nat} (hi : jOB E ci i) (hk : k < N) (hq : jq ci k = true) (hF : (F k).1 = ref) (hw : Cond.fieldLinkNest own idx ref (F k).2.1 (F k).2.2.1 host ∈ jnst) (d : decode cc pc = .ok (.getfield idx, 3)) (h : jJ Z E nL Q (pc + 3) lv (.ref (E.2.2.1 (jr i k)) :: st) I) : jJ Z E nL Q pc lv (.ref (E.2.2.1 i) :: st) I := fun ls H locs hl hP hS => by
  obtain ⟨q, hq0⟩ := jmem_get hi.1
  have he := jworld_get (I := I) hq0
  rw [jcell_obj hi.2 hc.2.2.1 hc.2.2.2.1 hc.2.2.2.2.1] at he
  have hv : (jfs E.2.2.1 i I)[k]? = some (Value.ref (E.2.2.1 (jr i k))) := by
    rw [jfs_get hi.2 (hc.2.1 ▸ hk), hq]; rfl
  exact va_getN (D := E.1) (ci := ci) C.x C.b C.ts hc.2.2.2.2.2.1 C.own C.K hP q he hc.1 k hk (va_Nw.use rfl (C.N _ hw)) (fun x hx => hF ▸ hx) hv d (h ls H locs hl hP hS)
theorem j_put (C : jC Z E cc nL own fR lR) {ci : Nat} {Cn ref : String} {F : u_T} {N : Nat} {ty : Nat → FieldType} (hc : jcl ci Cn F N ty) {i k idx : Nat} {v : Int32} (hi : jOB E ci i) (hk : k < N) (hq : jq ci k = false) (hF : (F k).1 = ref) (hfin : (F k).2.2.2 = false) (hw : Cond.fieldLink own idx ref (F k).2.1 (F k).2.2.1 ∈ jtbl) (hn : narrow (ty k) (.int v) = .int v) (hf : fits (ty k) (.int v) = true) (d : decode cc pc = .ok (.putfield idx, 3)) (h : jJ Z E nL Q (pc + 3) lv st (jwr I i k v)) : jJ Z E nL Q pc lv (.int v :: .ref (E.2.2.1 i) :: st) I := fun ls H locs hl hP hS => by
  obtain ⟨q, hq0⟩ := jmem_get hi.1
  have he := jworld_get (I := I) hq0
  have hkn : k < jn ci := hc.2.1 ▸ hk
  rw [jcell_obj hi.2 hc.2.2.1 hc.2.2.2.1 hc.2.2.2.2.1] at he
  refine va_put (D := E.1) (ci := ci) (v := .int v) (ty := ty k) C.x C.b C.ts hc.2.2.2.2.2.1 ty hc.2.2.2.2.2.2.1 hc.2.2.2.2.2.2.2 C.own C.K hP (jworld_D C.ok I) hS q he hc.1 k hk (C.ts _ hw) (fun x hx => hF ▸ hx) hfin (hc.2.2.2.2.2.2.1 k hk) hn hf (by rw [jfs_len hi.2]; exact hkn) d (fun H1 locs1 hP1 _ hS1 => ?_)
  refine h ls H1 locs1 hl (jP_set C.ok hq0 (I' := jwr I i k v) (fun a ha => jwr_ne ha) ?_ hP1) hS1
  rw [jcell_obj hi.2 hc.2.2.1 hc.2.2.2.1 hc.2.2.2.2.1, jfs_set hi.2 hkn hq]
theorem j_putN (C : jC Z E cc nL own fR lR) {ci : Nat} {Cn ref host : String} {F : u_T} {N : Nat} {ty : Nat → FieldType} (hc : jcl ci Cn F N ty) {i k idx : Nat} {v : Int32} (hi : jOB E ci i) (hk : k < N) (hq : jq ci k = false) (hF : (F k).1 = ref) (hfin : (F k).2.2.2 = false) (hw : Cond.fieldLinkNest own idx ref (F k).2.1 (F k).2.2.1 host ∈ jnst) (hn : narrow (ty k) (.int v) = .int v) (hf : fits (ty k) (.int v) = true) (d : decode cc pc = .ok (.putfield idx, 3)) (h : jJ Z E nL Q (pc + 3) lv st (jwr I i k v)) : jJ Z E nL Q pc lv (.int v :: .ref (E.2.2.1 i) :: st) I := fun ls H locs hl hP hS => by
  obtain ⟨q, hq0⟩ := jmem_get hi.1
  have he := jworld_get (I := I) hq0
  have hkn : k < jn ci := hc.2.1 ▸ hk
  rw [jcell_obj hi.2 hc.2.2.1 hc.2.2.2.1 hc.2.2.2.2.1] at he
  refine va_putN (D := E.1) (ci := ci) (v := .int v) (ty := ty k) C.x C.b C.ts hc.2.2.2.2.2.1 ty hc.2.2.2.2.2.2.1 hc.2.2.2.2.2.2.2 C.own C.K hP (jworld_D C.ok I) hS q he hc.1 k hk (va_Nw.use rfl (C.N _ hw)) (fun x hx => hF ▸ hx) hfin (hc.2.2.2.2.2.2.1 k hk) hn hf (by rw [jfs_len hi.2]; exact hkn) d (fun H1 locs1 hP1 _ hS1 => ?_)
  refine h ls H1 locs1 hl (jP_set C.ok hq0 (I' := jwr I i k v) (fun a ha => jwr_ne ha) ?_ hP1) hS1
  rw [jcell_obj hi.2 hc.2.2.1 hc.2.2.2.1 hc.2.2.2.2.1, jfs_set hi.2 hkn hq]
theorem j_iaload (C : jC Z E cc nL own fR lR) {n i : Nat} {x : Int32} (hi : jAI E n i) (hin : vp_in x n) (d : decode cc pc = .ok (.iaload, 1)) (h : jJ Z E nL Q (pc + 1) lv (.int (I i x.toNatClampNeg) :: st) I) : jJ Z E nL Q pc lv (.int x :: .ref (E.2.2.1 i) :: st) I := fun ls H locs hl hP hS => by
  obtain ⟨q, hq0⟩ := jmem_get hi.1
  have he := jworld_get (I := I) hq0
  rw [jcell_int hi.2.1, hi.2.2] at he
  exact va_iald C.x C.b C.K hP q 0 he rfl hin d (h ls H locs hl hP hS)
theorem j_zaload (C : jC Z E cc nL own fR lR) {n i : Nat} {x : Int32} (hi : jAB E n i) (hin : vp_in x n) (d : decode cc pc = .ok (.baload, 1)) (h : jJ Z E nL Q (pc + 1) lv (.int (I i x.toNatClampNeg) :: st) I) : jJ Z E nL Q pc lv (.int x :: .ref (E.2.2.1 i) :: st) I := fun ls H locs hl hP hS => by
  obtain ⟨q, hq0⟩ := jmem_get hi.1
  have he := jworld_get (I := I) hq0
  rw [jcell_boo hi.2.1, hi.2.2] at he
  exact va_zald C.x C.b C.K hP q 1 he rfl hin d (h ls H locs hl hP hS)
theorem j_iastore (C : jC Z E cc nL own fR lR) {n i : Nat} {x v : Int32} (hi : jAI E n i) (hin : vp_in x n) (d : decode cc pc = .ok (.iastore, 1)) (h : jJ Z E nL Q (pc + 1) lv st (jwr I i x.toNatClampNeg v)) : jJ Z E nL Q pc lv (.int v :: .int x :: .ref (E.2.2.1 i) :: st) I := fun ls H locs hl hP hS => by
  obtain ⟨q, hq0⟩ := jmem_get hi.1
  have he := jworld_get (I := I) hq0
  rw [jcell_int hi.2.1, hi.2.2] at he
  refine va_iast C.x C.b C.K hP (jworld_D C.ok I) hS q 0 he rfl hin d (fun H1 locs1 hP1 _ hS1 => ?_)
  refine h ls H1 locs1 hl (jP_set C.ok hq0 (I' := jwr I i x.toNatClampNeg v) (fun a ha => jwr_ne ha) ?_ hP1) hS1
  rw [jcell_int hi.2.1, hi.2.2, jwr_same]
theorem j_zastore (C : jC Z E cc nL own fR lR) {n i : Nat} {x v : Int32} (hi : jAB E n i) (hin : vp_in x n) (d : decode cc pc = .ok (.bastore, 1)) (h : jJ Z E nL Q (pc + 1) lv st (jwr I i x.toNatClampNeg (vp_nar .boolean v))) : jJ Z E nL Q pc lv (.int v :: .int x :: .ref (E.2.2.1 i) :: st) I := fun ls H locs hl hP hS => by
  obtain ⟨q, hq0⟩ := jmem_get hi.1
  have he := jworld_get (I := I) hq0
  rw [jcell_boo hi.2.1, hi.2.2] at he
  refine va_zast C.x C.b C.K hP (jworld_D C.ok I) hS q 1 he rfl hin d (fun H1 locs1 hP1 _ hS1 => ?_)
  refine h ls H1 locs1 hl (jP_set C.ok hq0 (I' := jwr I i x.toNatClampNeg (vp_nar .boolean v)) (fun a ha => jwr_ne ha) ?_ hP1) hS1
  rw [jcell_boo hi.2.1, hi.2.2, jwr_same]
theorem j_alen (C : jC Z E cc nL own fR lR) {n i : Nat} {v : Int32} (hi : jAI E n i) (hv : Int32.ofNat n = v) (d : decode cc pc = .ok (.arraylength, 1)) (h : jJ Z E nL Q (pc + 1) lv (.int v :: st) I) : jJ Z E nL Q pc lv (.ref (E.2.2.1 i) :: st) I := fun ls H locs hl hP hS => by
  obtain ⟨q, hq0⟩ := jmem_get hi.1
  have he := jworld_get (I := I) hq0
  rw [jcell_int hi.2.1, hi.2.2] at he
  exact va_alen C.x C.b C.K hP q 0 he (ty := .int) rfl hv d (h ls H locs hl hP hS)
theorem j_aaload (C : jC Z E cc nL own fR lR) {n i : Nat} {x : Int32} (hi : jAA E n i) (hin : vp_in x n) (d : decode cc pc = .ok (.aaload, 1)) (h : jJ Z E nL Q (pc + 1) lv (.ref (E.2.2.1 (jw i x.toNatClampNeg)) :: st) I) : jJ Z E nL Q pc lv (.int x :: .ref (E.2.2.1 i) :: st) I := fun ls H locs hl hP hS => by
  obtain ⟨q, hq0⟩ := jmem_get hi.1
  have he := jworld_get (I := I) hq0
  rw [jcell_arr hi.2.1, hi.2.2] at he
  have hlt : x.toNatClampNeg < n := Nat.not_le.mp fun q => hin (Or.inr q)
  have hat := hP q _ he
  exact W.aald (v := Value.ref (E.2.2.1 (jw i x.toNatClampNeg))) (ty := .array .int) C.x C.b hat ((C.K.2 2 _ rfl).1 n (fun j => va_rf (if j < n then some (E.2.2.1 (jw i j)) else none))) rfl (fun q => by cases q) (by show ¬ (x < 0 ∨ (arrV _ _ _).slots.size ≤ _); rw [arrV_size]; exact hin) (by show (arrV _ _ _).slots[_]? = _; rw [arrV_read _ _ hlt]; simp [hlt, va_rf]) rfl rfl d (h ls H locs hl hP hS)
end JM
