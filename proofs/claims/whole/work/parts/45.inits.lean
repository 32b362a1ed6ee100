theorem iw_22 : Cond.methodLink "OutOrder" 3 ⟨"java/lang/Object", "<init>", "()V"⟩ ∈ jtbl := jtbl_in 22 (by decide +kernel) (by decide +kernel)
theorem iw_23 : Cond.instanceMethod ⟨"java/lang/Object", "<init>", "()V"⟩ ∈ jtbl := jtbl_in 23 (by decide +kernel) (by decide +kernel)
theorem iw_25 : Cond.classLink "OutOrder" 9 "OutOrder$Table" ∈ jtbl := jtbl_in 25 (by decide +kernel) (by decide +kernel)
theorem iw_26 : Cond.instantiable "OutOrder$Table" 6 ∈ jtbl := jtbl_in 26 (by decide +kernel) (by decide +kernel)
theorem iw_28 : Cond.instanceMethod ⟨"OutOrder$Table", "<init>", "()V"⟩ ∈ jtbl := jtbl_in 28 (by decide +kernel) (by decide +kernel)
theorem iw_29 : Cond.code ⟨"OutOrder$Table", "<init>", "()V"⟩ prog_11_method_1_code 1 (Option.none : Option Jvm.ClassFile.FieldType) ∈ jtbl := jtbl_in 29 (by decide +kernel) (by decide +kernel)
theorem iw_30 : Cond.methodLink "OutOrder$Table" 3 ⟨"java/lang/Object", "<init>", "()V"⟩ ∈ jtbl := jtbl_in 30 (by decide +kernel) (by decide +kernel)
theorem iw_31 : Cond.classLink "OutOrder$Table" 9 "OutOrder$Modulus" ∈ jtbl := jtbl_in 31 (by decide +kernel) (by decide +kernel)
theorem iw_32 : Cond.instantiable "OutOrder$Modulus" 1 ∈ jtbl := jtbl_in 32 (by decide +kernel) (by decide +kernel)
theorem iw_34 : Cond.instanceMethod ⟨"OutOrder$Modulus", "<init>", "()V"⟩ ∈ jtbl := jtbl_in 34 (by decide +kernel) (by decide +kernel)
theorem iw_35 : Cond.code ⟨"OutOrder$Modulus", "<init>", "()V"⟩ prog_5_method_1_code 1 (Option.none : Option Jvm.ClassFile.FieldType) ∈ jtbl := jtbl_in 35 (by decide +kernel) (by decide +kernel)
theorem iw_36 : Cond.methodLink "OutOrder$Modulus" 3 ⟨"java/lang/Object", "<init>", "()V"⟩ ∈ jtbl := jtbl_in 36 (by decide +kernel) (by decide +kernel)
theorem iw_43 : Cond.classLink "OutOrder$Table" 18 "[[I" ∈ jtbl := jtbl_in 43 (by decide +kernel) (by decide +kernel)
theorem iw_81 : Cond.arrayClass Jvm.ClassFile.FieldType.int ∈ jtbl := jtbl_in 81 (by decide +kernel) (by decide +kernel)
theorem iw_82 : Cond.classLink "OutOrder" 16 "OutOrder$Row" ∈ jtbl := jtbl_in 82 (by decide +kernel) (by decide +kernel)
theorem iw_83 : Cond.instantiable "OutOrder$Row" 3 ∈ jtbl := jtbl_in 83 (by decide +kernel) (by decide +kernel)
theorem iw_85 : Cond.instanceMethod ⟨"OutOrder$Row", "<init>", "()V"⟩ ∈ jtbl := jtbl_in 85 (by decide +kernel) (by decide +kernel)
theorem iw_86 : Cond.code ⟨"OutOrder$Row", "<init>", "()V"⟩ prog_9_method_1_code 1 (Option.none : Option Jvm.ClassFile.FieldType) ∈ jtbl := jtbl_in 86 (by decide +kernel) (by decide +kernel)
theorem iw_87 : Cond.methodLink "OutOrder$Row" 3 ⟨"java/lang/Object", "<init>", "()V"⟩ ∈ jtbl := jtbl_in 87 (by decide +kernel) (by decide +kernel)
theorem iw_105 : Cond.classLink "OutOrder" 23 "OutOrder$Rules" ∈ jtbl := jtbl_in 105 (by decide +kernel) (by decide +kernel)
theorem iw_106 : Cond.instantiable "OutOrder$Rules" 1 ∈ jtbl := jtbl_in 106 (by decide +kernel) (by decide +kernel)
theorem iw_108 : Cond.instanceMethod ⟨"OutOrder$Rules", "<init>", "()V"⟩ ∈ jtbl := jtbl_in 108 (by decide +kernel) (by decide +kernel)
theorem iw_109 : Cond.code ⟨"OutOrder$Rules", "<init>", "()V"⟩ prog_10_method_1_code 1 (Option.none : Option Jvm.ClassFile.FieldType) ∈ jtbl := jtbl_in 109 (by decide +kernel) (by decide +kernel)
theorem iw_110 : Cond.methodLink "OutOrder$Rules" 3 ⟨"java/lang/Object", "<init>", "()V"⟩ ∈ jtbl := jtbl_in 110 (by decide +kernel) (by decide +kernel)
theorem iw_111 : Cond.classLink "OutOrder$Rules" 9 "OutOrder$Net" ∈ jtbl := jtbl_in 111 (by decide +kernel) (by decide +kernel)
theorem iw_112 : Cond.instantiable "OutOrder$Net" 3 ∈ jtbl := jtbl_in 112 (by decide +kernel) (by decide +kernel)
theorem iw_114 : Cond.instanceMethod ⟨"OutOrder$Net", "<init>", "()V"⟩ ∈ jtbl := jtbl_in 114 (by decide +kernel) (by decide +kernel)
theorem iw_115 : Cond.code ⟨"OutOrder$Net", "<init>", "()V"⟩ prog_6_method_1_code 1 (Option.none : Option Jvm.ClassFile.FieldType) ∈ jtbl := jtbl_in 115 (by decide +kernel) (by decide +kernel)
theorem iw_116 : Cond.methodLink "OutOrder$Net" 3 ⟨"java/lang/Object", "<init>", "()V"⟩ ∈ jtbl := jtbl_in 116 (by decide +kernel) (by decide +kernel)
theorem iw_141 : Cond.classLink "OutOrder" 30 "OutOrder$Least" ∈ jtbl := jtbl_in 141 (by decide +kernel) (by decide +kernel)
theorem iw_142 : Cond.instantiable "OutOrder$Least" 4 ∈ jtbl := jtbl_in 142 (by decide +kernel) (by decide +kernel)
theorem iw_144 : Cond.instanceMethod ⟨"OutOrder$Least", "<init>", "()V"⟩ ∈ jtbl := jtbl_in 144 (by decide +kernel) (by decide +kernel)
theorem iw_145 : Cond.code ⟨"OutOrder$Least", "<init>", "()V"⟩ prog_4_method_1_code 1 (Option.none : Option Jvm.ClassFile.FieldType) ∈ jtbl := jtbl_in 145 (by decide +kernel) (by decide +kernel)
theorem iw_146 : Cond.methodLink "OutOrder$Least" 3 ⟨"java/lang/Object", "<init>", "()V"⟩ ∈ jtbl := jtbl_in 146 (by decide +kernel) (by decide +kernel)
theorem iw_147 : Cond.classLink "OutOrder$Least" 18 "[[I" ∈ jtbl := jtbl_in 147 (by decide +kernel) (by decide +kernel)
theorem iw_148 : Cond.classLink "OutOrder$Least" 23 "OutOrder$Net" ∈ jtbl := jtbl_in 148 (by decide +kernel) (by decide +kernel)
theorem iw_165 : Cond.classLink "OutOrder" 37 "OutOrder$FullNet" ∈ jtbl := jtbl_in 165 (by decide +kernel) (by decide +kernel)
theorem iw_166 : Cond.instantiable "OutOrder$FullNet" 10 ∈ jtbl := jtbl_in 166 (by decide +kernel) (by decide +kernel)
theorem iw_168 : Cond.instanceMethod ⟨"OutOrder$FullNet", "<init>", "()V"⟩ ∈ jtbl := jtbl_in 168 (by decide +kernel) (by decide +kernel)
theorem iw_169 : Cond.code ⟨"OutOrder$FullNet", "<init>", "()V"⟩ prog_2_method_1_code 1 (Option.none : Option Jvm.ClassFile.FieldType) ∈ jtbl := jtbl_in 169 (by decide +kernel) (by decide +kernel)
theorem iw_170 : Cond.methodLink "OutOrder$FullNet" 3 ⟨"java/lang/Object", "<init>", "()V"⟩ ∈ jtbl := jtbl_in 170 (by decide +kernel) (by decide +kernel)
theorem iw_171 : Cond.classLink "OutOrder$FullNet" 9 "OutOrder$Net" ∈ jtbl := jtbl_in 171 (by decide +kernel) (by decide +kernel)
theorem iw_215 : Cond.classLink "OutOrder" 44 "OutOrder$Going" ∈ jtbl := jtbl_in 215 (by decide +kernel) (by decide +kernel)
theorem iw_216 : Cond.instantiable "OutOrder$Going" 3 ∈ jtbl := jtbl_in 216 (by decide +kernel) (by decide +kernel)
theorem iw_218 : Cond.instanceMethod ⟨"OutOrder$Going", "<init>", "()V"⟩ ∈ jtbl := jtbl_in 218 (by decide +kernel) (by decide +kernel)
theorem iw_219 : Cond.code ⟨"OutOrder$Going", "<init>", "()V"⟩ prog_3_method_1_code 1 (Option.none : Option Jvm.ClassFile.FieldType) ∈ jtbl := jtbl_in 219 (by decide +kernel) (by decide +kernel)
theorem iw_220 : Cond.methodLink "OutOrder$Going" 3 ⟨"java/lang/Object", "<init>", "()V"⟩ ∈ jtbl := jtbl_in 220 (by decide +kernel) (by decide +kernel)
theorem iw_221 : Cond.classLink "OutOrder$Going" 9 "OutOrder$Net" ∈ jtbl := jtbl_in 221 (by decide +kernel) (by decide +kernel)
theorem iw_235 : Cond.classLink "OutOrder" 51 "OutOrder$Work" ∈ jtbl := jtbl_in 235 (by decide +kernel) (by decide +kernel)
theorem iw_236 : Cond.instantiable "OutOrder$Work" 6 ∈ jtbl := jtbl_in 236 (by decide +kernel) (by decide +kernel)
theorem iw_238 : Cond.instanceMethod ⟨"OutOrder$Work", "<init>", "()V"⟩ ∈ jtbl := jtbl_in 238 (by decide +kernel) (by decide +kernel)
theorem iw_239 : Cond.code ⟨"OutOrder$Work", "<init>", "()V"⟩ prog_12_method_1_code 1 (Option.none : Option Jvm.ClassFile.FieldType) ∈ jtbl := jtbl_in 239 (by decide +kernel) (by decide +kernel)
theorem iw_240 : Cond.methodLink "OutOrder$Work" 3 ⟨"java/lang/Object", "<init>", "()V"⟩ ∈ jtbl := jtbl_in 240 (by decide +kernel) (by decide +kernel)
theorem iw_241 : Cond.classLink "OutOrder$Work" 9 "[[I" ∈ jtbl := jtbl_in 241 (by decide +kernel) (by decide +kernel)
theorem iw_265 : Cond.classLink "OutOrder" 58 "OutOrder$Plan" ∈ jtbl := jtbl_in 265 (by decide +kernel) (by decide +kernel)
theorem iw_266 : Cond.instantiable "OutOrder$Plan" 1 ∈ jtbl := jtbl_in 266 (by decide +kernel) (by decide +kernel)
theorem iw_268 : Cond.instanceMethod ⟨"OutOrder$Plan", "<init>", "()V"⟩ ∈ jtbl := jtbl_in 268 (by decide +kernel) (by decide +kernel)
theorem iw_269 : Cond.code ⟨"OutOrder$Plan", "<init>", "()V"⟩ prog_7_method_1_code 1 (Option.none : Option Jvm.ClassFile.FieldType) ∈ jtbl := jtbl_in 269 (by decide +kernel) (by decide +kernel)
theorem iw_270 : Cond.methodLink "OutOrder$Plan" 3 ⟨"java/lang/Object", "<init>", "()V"⟩ ∈ jtbl := jtbl_in 270 (by decide +kernel) (by decide +kernel)
theorem iw_728 : Cond.methodLink "OutOrderModel" 1 ⟨"java/lang/Object", "<init>", "()V"⟩ ∈ jtbl := jtbl_in 728 (by decide +kernel) (by decide +kernel)
theorem iw_802 : Cond.arrayClass Jvm.ClassFile.FieldType.boolean ∈ jtbl := jtbl_in 802 (by decide +kernel) (by decide +kernel)
theorem iw_obj : Cond.code objectInit ⟨#[0xb1]⟩ 1 none ∈ jtbl := jtbl_in 24 (by decide +kernel) (by decide +kernel)
theorem nodup_inj {L : List Nat} {f : Nat → Nat} (h : (L.map f).Nodup) {i j : Nat} (hi : i ∈ L) (hj : j ∈ L) (e : f i = f j) : i = j := by
  obtain ⟨a, ha, rfl⟩ := List.getElem_of_mem hi
  obtain ⟨b, hb, rfl⟩ := List.getElem_of_mem hj
  have h1 : (L.map f)[a]? = some (f L[a]) := by rw [List.getElem?_map, List.getElem?_eq_getElem ha]; rfl
  have h2 : (L.map f)[b]? = some (f L[b]) := by rw [List.getElem?_map, List.getElem?_eq_getElem hb]; rfl
  have h3 : a = b := (List.getElem?_inj (List.getElem?_eq_some_iff.mp h1).1 h).mp (by rw [h1, h2, e])
  subst h3
  rfl
theorem jw_at_3 (j : Nat) : jw 3 j = 3 + 1 + j := rfl
theorem jI0_row_3 (j : Nat) (hj : j < 24) : jI0 (3 + 1 + j) = fun _ => 0 := by
  have h : jk (3 + 1 + j) = 1000 := (by decide +kernel : ∀ j, j < 24 → jk (3 + 1 + j) = 1000) j hj
  funext k
  unfold jI0
  simp [h]
theorem jw_at_39 (j : Nat) : jw 39 j = 39 + 1 + j := rfl
theorem jI0_row_39 (j : Nat) (hj : j < 13) : jI0 (39 + 1 + j) = fun _ => 0 := by
  have h : jk (39 + 1 + j) = 1000 := (by decide +kernel : ∀ j, j < 13 → jk (39 + 1 + j) = 1000) j hj
  funext k
  unfold jI0
  simp [h]
theorem jw_at_69 (j : Nat) : jw 69 j = 69 + 1 + j := rfl
theorem jI0_row_69 (j : Nat) (hj : j < 24) : jI0 (69 + 1 + j) = fun _ => 0 := by
  have h : jk (69 + 1 + j) = 1000 := (by decide +kernel : ∀ j, j < 24 → jk (69 + 1 + j) = 1000) j hj
  funext k
  unfold jI0
  simp [h]

theorem c_start {Z : jZ} {D : va_G} {g : ClassId × ClassId × ClassId} {cc : ByteArray} {fR lR mc ms kc ks pc r h0 sz : Nat} {done : List Nat} {ad : Nat → Nat} {Ls : List Nat} {K : jM → Prop} (C : cC Z D g (cA h0 sz) cc "OutOrder" fR lR mc ms) (hK : OO_startAnew 0 1 32749 jI0 K) (hf : 3 + 1 ≤ fR) (hl0 : 8 + (3 + 11) + 63 ≤ lR) (hkc : kc ≤ mc) (hks : ks ≤ ms)
    (d1 : decode cc pc = .ok (.aload_n 0, 1)) (d2 : decode cc (pc + 1) = .ok (.iconst 1, 1)) (d3 : decode cc (pc + 2) = .ok (.sipush 32749, 3)) (d4 : decode cc (pc + 5) = .ok (.invokevirtual 69, 3)) (d5 : decode cc (pc + 8) = .ok (.return_, 1)) (hr0 : r = 0 := by rfl) (hLs : r :: Ls = jLX := by decide +kernel) (hfull : ∀ k, k < jn (jk r) → k ∈ done ∨ (jq (jk r) k = false ∧ jI0 r k = 0) := by decide +kernel) (hcl : jclo Ls := by unfold jclo; decide +kernel) (hrL : r ∉ Ls := by decide +kernel) (hch : ∀ k, k < jn (jk r) → jq (jk r) k = true → jr r k ∈ Ls := by decide +kernel) :
    cJ Z D g (cA h0 sz) kc ks (MQ (jZb Z) (va_Qv (fun u : (Nat → Nat) × jM => u.1 0 = h0 ∧ K u.2) (fun u t => mP D (jworld (D, g, u.1, jLX) u.2) t.heap ∧ mD (cA h0 sz) (jworld (D, g, u.1, jLX) u.2)) (cA h0 sz)) (jZa Z) (jZs Z) kc ks (cA h0 sz)) pc r h0 done [] ad Ls [] := fun ls H locs hl hP hD hS => by
  subst hr0
  rw [c_full (by decide +kernel) hfull hcl hrL hch, hLs] at hP hD
  have hu0 : va_up ad 0 h0 0 = h0 := if_pos rfl
  generalize va_up ad 0 h0 = ad1 at hP hD hu0
  have hok : jOK (D, g, ad1, jLX) := ⟨by show jLX.Nodup; decide +kernel, fun i hi j hj e => by
    have hnd := hD.1
    have e2 : (jworld (D, g, ad1, jLX) jI0).map Prod.fst = jLX.map ad1 := by unfold jworld; rw [List.map_map]; rfl
    rw [e2] at hnd
    exact nodup_inj hnd hi hj e⟩
  refine lv_aload_n C.x C.b d1 rfl (lv_at hl 0 rfl) ?_
  refine lv_iconst (v := 1) C.x C.b d2 (by decide) ?_
  refine lv_sipush (v := 32749) C.x C.b d3 (by decide) ?_
  have hb : jOB (D, g, ad1, jLX) 10 0 := ⟨by show 0 ∈ jLX; decide +kernel, by decide +kernel⟩
  have hK1 : va_K D jCl (jtys (D, g, ad1, jLX)) (jZs Z) := C.K.1
  obtain ⟨q9, hq9⟩ := jmem_get hb.1
  have he := jworld_get (E := (D, g, ad1, jLX)) (I := jI0) hq9
  rw [jcell_obj hb.2 (by decide) (by decide) (by decide)] at he
  have hrecv := va_recv hK1 hP.to jcl_OO.1 he
  have hjA : ∀ z, jA (D, g, ad1, jLX) z → cA h0 sz z := fun z hz => by
    obtain ⟨i, hi, rfl⟩ := hz
    exact hD.2 (ad1 i, jcell g ad1 i jI0) (List.mem_map.mpr ⟨i, hi, rfl⟩)
  have hM := s_OO_startAnew (l := jZl Z) hok rfl hb hK
  have hWd := cw_OO_69
  refine va_callv (va_runV (As := [.int 1, .int 32749]) (rest := []) (C := "OutOrder") (b := ad1 0) ⟨C.x, C.b, C.ml, C.own, C.ts⟩ hM ⟨⟨rfl, rfl, Nat.le_trans hf C.fr, Nat.le_trans hl0 C.lo, pay_in C.ts (jgoodIn hWd.1), List.mem_cons_self, C.ts _ hWd.1, C.ts _ hWd.2.2.1, hWd.2.2.2.1, fun sig h => ?_, C.ts _ hWd.2.1⟩, C.ts _ w_278, C.ts _ ws_0⟩ ⟨jB_blind _ _ _, hrecv, fun U hU hW => ⟨rfl, by rw [hU]; exact hP.to, va_K.moved hW.alike hK1, C.K.2.1.warm hW⟩⟩ rfl rfl hl.1 (by rw [hu0]; rfl) (Nat.le_of_ble_eq_true rfl) d4 ⟨Nat.le_trans hkc C.ce, Nat.le_trans hks C.sl⟩) hS (fun q _ h => hjA q h) hjA (fun I1 t H1 locs1 ht _ hw hB _ _ hS1 => ?_)
  · have h2 := hWd.2.2.2.2
    rw [h] at h2
    exact (Option.some.inj h2).symm
  · have hP1 : mP D (jworld (D, g, ad1, jLX) I1) H1 := mP.of (by rw [← ht]; exact hB.1)
    have hD1 : mD (cA h0 sz) (jworld (D, g, ad1, jLX) I1) := by
      refine ⟨?_, fun x hx => ?_⟩
      · have e2 : (jworld (D, g, ad1, jLX) I1).map Prod.fst = (jworld (D, g, ad1, jLX) jI0).map Prod.fst := by unfold jworld; rw [List.map_map, List.map_map]; rfl
        rw [e2]; exact hD.1
      · obtain ⟨i, hi, rfl⟩ := List.mem_map.mp hx
        exact hD.2 (ad1 i, jcell g ad1 i jI0) (List.mem_map.mpr ⟨i, hi, rfl⟩)
    exact W.vret C.x C.b C.r (fun t2 ht2 hW2 => ⟨⟨(ad1, I1), rfl, ⟨hu0, hw⟩, by rw [ht2]; exact hP1, hD1⟩, hS1.F ht2⟩) hS1.2.2 d5 C.lk
theorem d_OO_init_0 : decode prog_1_method_1_code 0 = .ok (.aload_n 0, 1) := by decide +kernel
theorem d_OO_init_1 : decode prog_1_method_1_code 1 = .ok (.invokespecial 3, 3) := by decide +kernel
theorem d_OO_init_4 : decode prog_1_method_1_code 4 = .ok (.aload_n 0, 1) := by decide +kernel
theorem d_OO_init_5 : decode prog_1_method_1_code 5 = .ok (.new 9, 3) := by decide +kernel
theorem d_OO_init_8 : decode prog_1_method_1_code 8 = .ok (.dup, 1) := by decide +kernel
theorem d_OO_init_9 : decode prog_1_method_1_code 9 = .ok (.invokespecial 11, 3) := by decide +kernel
theorem d_OO_init_12 : decode prog_1_method_1_code 12 = .ok (.putfield 12, 3) := by decide +kernel
theorem d_OO_init_15 : decode prog_1_method_1_code 15 = .ok (.aload_n 0, 1) := by decide +kernel
theorem d_OO_init_16 : decode prog_1_method_1_code 16 = .ok (.new 16, 3) := by decide +kernel
theorem d_OO_init_19 : decode prog_1_method_1_code 19 = .ok (.dup, 1) := by decide +kernel
theorem d_OO_init_20 : decode prog_1_method_1_code 20 = .ok (.invokespecial 18, 3) := by decide +kernel
theorem d_OO_init_23 : decode prog_1_method_1_code 23 = .ok (.putfield 19, 3) := by decide +kernel
theorem d_OO_init_26 : decode prog_1_method_1_code 26 = .ok (.aload_n 0, 1) := by decide +kernel
theorem d_OO_init_27 : decode prog_1_method_1_code 27 = .ok (.new 23, 3) := by decide +kernel
theorem d_OO_init_30 : decode prog_1_method_1_code 30 = .ok (.dup, 1) := by decide +kernel
theorem d_OO_init_31 : decode prog_1_method_1_code 31 = .ok (.invokespecial 25, 3) := by decide +kernel
theorem d_OO_init_34 : decode prog_1_method_1_code 34 = .ok (.putfield 26, 3) := by decide +kernel
theorem d_OO_init_37 : decode prog_1_method_1_code 37 = .ok (.aload_n 0, 1) := by decide +kernel
theorem d_OO_init_38 : decode prog_1_method_1_code 38 = .ok (.new 30, 3) := by decide +kernel
theorem d_OO_init_41 : decode prog_1_method_1_code 41 = .ok (.dup, 1) := by decide +kernel
theorem d_OO_init_42 : decode prog_1_method_1_code 42 = .ok (.invokespecial 32, 3) := by decide +kernel
theorem d_OO_init_45 : decode prog_1_method_1_code 45 = .ok (.putfield 33, 3) := by decide +kernel
theorem d_OO_init_48 : decode prog_1_method_1_code 48 = .ok (.aload_n 0, 1) := by decide +kernel
theorem d_OO_init_49 : decode prog_1_method_1_code 49 = .ok (.new 37, 3) := by decide +kernel
theorem d_OO_init_52 : decode prog_1_method_1_code 52 = .ok (.dup, 1) := by decide +kernel
theorem d_OO_init_53 : decode prog_1_method_1_code 53 = .ok (.invokespecial 39, 3) := by decide +kernel
theorem d_OO_init_56 : decode prog_1_method_1_code 56 = .ok (.putfield 40, 3) := by decide +kernel
theorem d_OO_init_59 : decode prog_1_method_1_code 59 = .ok (.aload_n 0, 1) := by decide +kernel
theorem d_OO_init_60 : decode prog_1_method_1_code 60 = .ok (.new 44, 3) := by decide +kernel
theorem d_OO_init_63 : decode prog_1_method_1_code 63 = .ok (.dup, 1) := by decide +kernel
theorem d_OO_init_64 : decode prog_1_method_1_code 64 = .ok (.invokespecial 46, 3) := by decide +kernel
theorem d_OO_init_67 : decode prog_1_method_1_code 67 = .ok (.putfield 47, 3) := by decide +kernel
theorem d_OO_init_70 : decode prog_1_method_1_code 70 = .ok (.aload_n 0, 1) := by decide +kernel
theorem d_OO_init_71 : decode prog_1_method_1_code 71 = .ok (.new 51, 3) := by decide +kernel
theorem d_OO_init_74 : decode prog_1_method_1_code 74 = .ok (.dup, 1) := by decide +kernel
theorem d_OO_init_75 : decode prog_1_method_1_code 75 = .ok (.invokespecial 53, 3) := by decide +kernel
theorem d_OO_init_78 : decode prog_1_method_1_code 78 = .ok (.putfield 54, 3) := by decide +kernel
theorem d_OO_init_81 : decode prog_1_method_1_code 81 = .ok (.aload_n 0, 1) := by decide +kernel
theorem d_OO_init_82 : decode prog_1_method_1_code 82 = .ok (.new 58, 3) := by decide +kernel
theorem d_OO_init_85 : decode prog_1_method_1_code 85 = .ok (.dup, 1) := by decide +kernel
theorem d_OO_init_86 : decode prog_1_method_1_code 86 = .ok (.invokespecial 60, 3) := by decide +kernel
theorem d_OO_init_89 : decode prog_1_method_1_code 89 = .ok (.putfield 61, 3) := by decide +kernel
theorem d_OO_init_92 : decode prog_1_method_1_code 92 = .ok (.aload_n 0, 1) := by decide +kernel
theorem d_OO_init_93 : decode prog_1_method_1_code 93 = .ok (.bipush 7, 2) := by decide +kernel
theorem d_OO_init_95 : decode prog_1_method_1_code 95 = .ok (.newarray .int, 2) := by decide +kernel
theorem d_OO_init_97 : decode prog_1_method_1_code 97 = .ok (.putfield 65, 3) := by decide +kernel
theorem d_OO_init_100 : decode prog_1_method_1_code 100 = .ok (.aload_n 0, 1) := by decide +kernel
theorem d_OO_init_101 : decode prog_1_method_1_code 101 = .ok (.iconst 1, 1) := by decide +kernel
theorem d_OO_init_102 : decode prog_1_method_1_code 102 = .ok (.sipush 32749, 3) := by decide +kernel
theorem d_OO_init_105 : decode prog_1_method_1_code 105 = .ok (.invokevirtual 69, 3) := by decide +kernel
theorem d_OO_init_108 : decode prog_1_method_1_code 108 = .ok (.return_, 1) := by decide +kernel
theorem d_TA_init_0 : decode prog_11_method_1_code 0 = .ok (.aload_n 0, 1) := by decide +kernel
theorem d_TA_init_1 : decode prog_11_method_1_code 1 = .ok (.invokespecial 3, 3) := by decide +kernel
theorem d_TA_init_4 : decode prog_11_method_1_code 4 = .ok (.aload_n 0, 1) := by decide +kernel
theorem d_TA_init_5 : decode prog_11_method_1_code 5 = .ok (.new 9, 3) := by decide +kernel
theorem d_TA_init_8 : decode prog_11_method_1_code 8 = .ok (.dup, 1) := by decide +kernel
theorem d_TA_init_9 : decode prog_11_method_1_code 9 = .ok (.invokespecial 11, 3) := by decide +kernel
theorem d_TA_init_12 : decode prog_11_method_1_code 12 = .ok (.putfield 12, 3) := by decide +kernel
theorem d_TA_init_15 : decode prog_11_method_1_code 15 = .ok (.aload_n 0, 1) := by decide +kernel
theorem d_TA_init_16 : decode prog_11_method_1_code 16 = .ok (.bipush 24, 2) := by decide +kernel
theorem d_TA_init_18 : decode prog_11_method_1_code 18 = .ok (.bipush 24, 2) := by decide +kernel
theorem d_TA_init_20 : decode prog_11_method_1_code 20 = .ok (.multianewarray 18 2, 4) := by decide +kernel
theorem d_TA_init_24 : decode prog_11_method_1_code 24 = .ok (.putfield 20, 3) := by decide +kernel
theorem d_TA_init_27 : decode prog_11_method_1_code 27 = .ok (.aload_n 0, 1) := by decide +kernel
theorem d_TA_init_28 : decode prog_11_method_1_code 28 = .ok (.bipush 24, 2) := by decide +kernel
theorem d_TA_init_30 : decode prog_11_method_1_code 30 = .ok (.newarray .int, 2) := by decide +kernel
theorem d_TA_init_32 : decode prog_11_method_1_code 32 = .ok (.putfield 23, 3) := by decide +kernel
theorem d_TA_init_35 : decode prog_11_method_1_code 35 = .ok (.aload_n 0, 1) := by decide +kernel
theorem d_TA_init_36 : decode prog_11_method_1_code 36 = .ok (.bipush 24, 2) := by decide +kernel
theorem d_TA_init_38 : decode prog_11_method_1_code 38 = .ok (.newarray .int, 2) := by decide +kernel
theorem d_TA_init_40 : decode prog_11_method_1_code 40 = .ok (.putfield 27, 3) := by decide +kernel
theorem d_TA_init_43 : decode prog_11_method_1_code 43 = .ok (.aload_n 0, 1) := by decide +kernel
theorem d_TA_init_44 : decode prog_11_method_1_code 44 = .ok (.iconst 1, 1) := by decide +kernel
theorem d_TA_init_45 : decode prog_11_method_1_code 45 = .ok (.putfield 30, 3) := by decide +kernel
theorem d_TA_init_48 : decode prog_11_method_1_code 48 = .ok (.return_, 1) := by decide +kernel
theorem d_MO_init_0 : decode prog_5_method_1_code 0 = .ok (.aload_n 0, 1) := by decide +kernel
theorem d_MO_init_1 : decode prog_5_method_1_code 1 = .ok (.invokespecial 3, 3) := by decide +kernel
theorem d_MO_init_4 : decode prog_5_method_1_code 4 = .ok (.aload_n 0, 1) := by decide +kernel
theorem d_MO_init_5 : decode prog_5_method_1_code 5 = .ok (.sipush 32749, 3) := by decide +kernel
theorem d_MO_init_8 : decode prog_5_method_1_code 8 = .ok (.putfield 9, 3) := by decide +kernel
theorem d_MO_init_11 : decode prog_5_method_1_code 11 = .ok (.return_, 1) := by decide +kernel
set_option maxRecDepth 100000 in
set_option maxHeartbeats 4000000 in
theorem i_MO_2 (l : Launch) (D : va_G) (g : ClassId × ClassId × ClassId) (h0 sz : Nat) : cS l D g ⟨"OutOrder$Modulus", "<init>", "()V"⟩ prog_5_method_1_code 1 14 0 0 2 [2] h0 sz := by
  unfold cS
  refine cS_of (own := "OutOrder$Modulus") (by decide +kernel) rfl rfl (fun Z _ _ C => ?_)
  show cJ Z D g (cA h0 sz) 0 0 (cQ Z D g 2 [2] h0 sz 0 0) 0 2 h0 [] [] id [] []
  refine c_aload C d_MO_init_0 ?_
  refine c_obj C iw_36 iw_23 iw_obj (by decide) (Nat.le_of_ble_eq_true rfl) d_MO_init_1 ?_
  refine c_aload C d_MO_init_4 ?_
  refine c_sipush C d_MO_init_5 is_32749 ?_
  refine c_putI C (v := (32749 : Int32)) jcl_MO (by decide +kernel) (k := 0) (by decide) rfl (by decide +kernel) rfl rfl w_37 rfl rfl d_MO_init_8 ?_
  exact c_ret C (by decide +kernel) (by decide +kernel) (by decide +kernel) (by unfold jclo; decide +kernel) (by decide +kernel) (by decide +kernel) d_MO_init_11
set_option maxRecDepth 100000 in
set_option maxHeartbeats 4000000 in
theorem i_TA_1 (l : Launch) (D : va_G) (g : ClassId × ClassId × ClassId) (h0 sz : Nat) : cS l D g ⟨"OutOrder$Table", "<init>", "()V"⟩ prog_11_method_1_code 2 34 28 649 1 [1, 2, 3, 4, 5, 6, 7, 8, 9, 10, 11, 12, 13, 14, 15, 16, 17, 18, 19, 20, 21, 22, 23, 24, 25, 26, 27, 28, 29] h0 sz := by
  unfold cS
  refine cS_of (own := "OutOrder$Table") (by decide +kernel) rfl rfl (fun Z _ _ C => ?_)
  show cJ Z D g (cA h0 sz) 0 0 (cQ Z D g 1 [1, 2, 3, 4, 5, 6, 7, 8, 9, 10, 11, 12, 13, 14, 15, 16, 17, 18, 19, 20, 21, 22, 23, 24, 25, 26, 27, 28, 29] h0 sz 28 649) 0 1 h0 [] [] id [] []
  refine c_aload C d_TA_init_0 ?_
  refine c_obj C iw_30 iw_23 iw_obj (by decide) (Nat.le_of_ble_eq_true rfl) d_TA_init_1 ?_
  refine c_aload C d_TA_init_4 ?_
  refine c_child C (i := 2) (Lc := [2]) (f := 1) (L := 14) (mc2 := 0) (ms2 := 0) (y := ⟨"OutOrder$Modulus", "<init>", "()V"⟩) (bytes := prog_5_method_1_code) jcl_MO (by decide +kernel) iw_31 iw_32 w_3 (by decide +kernel) (List.mem_of_getElem? (i := 1) rfl) iw_34 iw_35 rfl rfl (by decide +kernel) (by decide) (by decide) (Nat.le_of_ble_eq_true rfl) (by decide) (by decide) (by unfold jclo; decide +kernel) (by unfold jclo; decide +kernel) (by decide +kernel) (by decide +kernel) (by decide +kernel) (fun q sz => i_MO_2 (jZl Z) D g q sz) d_TA_init_5 d_TA_init_8 d_TA_init_9 (fun ad1 ea1 => ?_)
  refine c_putR C jcl_TA (by decide +kernel) (k := 0) (by decide) rfl (by decide +kernel) rfl rfl w_45 (fun _ => rfl) (fun _ => rfl) d_TA_init_12 ?_
  refine c_aload C d_TA_init_15 ?_
  refine c_bipush C d_TA_init_16 ib_24 ?_
  refine c_bipush C d_TA_init_18 ib_24 ?_
  refine c_multi C (i := 3) (n := 24) (k := 24) (by decide) (by decide) (by decide) (by decide) (by decide) (by decide) (by decide +kernel) (by decide +kernel) (fun j => jw_at_3 j) (by decide +kernel) (fun j hj => jI0_row_3 j hj) (by decide +kernel) (by unfold jclo; decide +kernel) (by decide +kernel) iw_43 (by decide) (by decide) d_TA_init_20 (fun ad2 ea2 => ?_)
  refine c_putR C jcl_TA (by decide +kernel) (k := 1) (by decide) rfl (by decide +kernel) rfl rfl w_48 (fun _ => rfl) (fun _ => rfl) d_TA_init_24 ?_
  refine c_aload C d_TA_init_27 ?_
  refine c_bipush C d_TA_init_28 ib_24 ?_
  refine c_newA C (i := 28) (n := 24) (ty := .int) (gc := g.1) (t0 := 0) rfl rfl (fun _ => rfl) (fun _ => by rw [jcell_int (by decide +kernel), show jl 28 = 24 by decide +kernel, show jI0 28 = fun _ => 0 from rfl]) rfl (by decide) (by decide) (by decide) (by decide) (by unfold jclo; decide +kernel) (by decide +kernel) iw_81 (by decide) (by decide) d_TA_init_30 (fun ad3 ea3 => ?_)
  refine c_putR C jcl_TA (by decide +kernel) (k := 2) (by decide) rfl (by decide +kernel) rfl rfl w_51 (fun _ => rfl) (fun _ => rfl) d_TA_init_32 ?_
  refine c_aload C d_TA_init_35 ?_
  refine c_bipush C d_TA_init_36 ib_24 ?_
  refine c_newA C (i := 29) (n := 24) (ty := .int) (gc := g.1) (t0 := 0) rfl rfl (fun _ => rfl) (fun _ => by rw [jcell_int (by decide +kernel), show jl 29 = 24 by decide +kernel, show jI0 29 = fun _ => 0 from rfl]) rfl (by decide) (by decide) (by decide) (by decide) (by unfold jclo; decide +kernel) (by decide +kernel) iw_81 (by decide) (by decide) d_TA_init_38 (fun ad4 ea4 => ?_)
  refine c_putR C jcl_TA (by decide +kernel) (k := 3) (by decide) rfl (by decide +kernel) rfl rfl w_56 (fun _ => rfl) (fun _ => rfl) d_TA_init_40 ?_
  refine c_aload C d_TA_init_43 ?_
  refine c_iconst C d_TA_init_44 ic_1 ?_
  refine c_putI C (v := (1 : Int32)) jcl_TA (by decide +kernel) (k := 4) (by decide) rfl (by decide +kernel) rfl rfl w_59 rfl rfl d_TA_init_45 ?_
  exact c_ret C (by decide +kernel) (by decide +kernel) (by decide +kernel) (by unfold jclo; decide +kernel) (by decide +kernel) (by decide +kernel) d_TA_init_48
theorem d_RO_init_0 : decode prog_9_method_1_code 0 = .ok (.aload_n 0, 1) := by decide +kernel
theorem d_RO_init_1 : decode prog_9_method_1_code 1 = .ok (.invokespecial 3, 3) := by decide +kernel
theorem d_RO_init_4 : decode prog_9_method_1_code 4 = .ok (.aload_n 0, 1) := by decide +kernel
theorem d_RO_init_5 : decode prog_9_method_1_code 5 = .ok (.bipush 24, 2) := by decide +kernel
theorem d_RO_init_7 : decode prog_9_method_1_code 7 = .ok (.newarray .int, 2) := by decide +kernel
theorem d_RO_init_9 : decode prog_9_method_1_code 9 = .ok (.putfield 9, 3) := by decide +kernel
theorem d_RO_init_12 : decode prog_9_method_1_code 12 = .ok (.aload_n 0, 1) := by decide +kernel
theorem d_RO_init_13 : decode prog_9_method_1_code 13 = .ok (.bipush 24, 2) := by decide +kernel
theorem d_RO_init_15 : decode prog_9_method_1_code 15 = .ok (.newarray .int, 2) := by decide +kernel
theorem d_RO_init_17 : decode prog_9_method_1_code 17 = .ok (.putfield 15, 3) := by decide +kernel
theorem d_RO_init_20 : decode prog_9_method_1_code 20 = .ok (.aload_n 0, 1) := by decide +kernel
theorem d_RO_init_21 : decode prog_9_method_1_code 21 = .ok (.iconst 1, 1) := by decide +kernel
theorem d_RO_init_22 : decode prog_9_method_1_code 22 = .ok (.putfield 18, 3) := by decide +kernel
theorem d_RO_init_25 : decode prog_9_method_1_code 25 = .ok (.return_, 1) := by decide +kernel
set_option maxRecDepth 100000 in
set_option maxHeartbeats 4000000 in
theorem i_RO_30 (l : Launch) (D : va_G) (g : ClassId × ClassId × ClassId) (h0 sz : Nat) : cS l D g ⟨"OutOrder$Row", "<init>", "()V"⟩ prog_9_method_1_code 1 14 2 48 30 [30, 31, 32] h0 sz := by
  unfold cS
  refine cS_of (own := "OutOrder$Row") (by decide +kernel) rfl rfl (fun Z _ _ C => ?_)
  show cJ Z D g (cA h0 sz) 0 0 (cQ Z D g 30 [30, 31, 32] h0 sz 2 48) 0 30 h0 [] [] id [] []
  refine c_aload C d_RO_init_0 ?_
  refine c_obj C iw_87 iw_23 iw_obj (by decide) (Nat.le_of_ble_eq_true rfl) d_RO_init_1 ?_
  refine c_aload C d_RO_init_4 ?_
  refine c_bipush C d_RO_init_5 ib_24 ?_
  refine c_newA C (i := 31) (n := 24) (ty := .int) (gc := g.1) (t0 := 0) rfl rfl (fun _ => rfl) (fun _ => by rw [jcell_int (by decide +kernel), show jl 31 = 24 by decide +kernel, show jI0 31 = fun _ => 0 from rfl]) rfl (by decide) (by decide) (by decide) (by decide) (by unfold jclo; decide +kernel) (by decide +kernel) iw_81 (by decide) (by decide) d_RO_init_7 (fun ad1 ea1 => ?_)
  refine c_putR C jcl_RO (by decide +kernel) (k := 0) (by decide) rfl (by decide +kernel) rfl rfl w_88 (fun _ => rfl) (fun _ => rfl) d_RO_init_9 ?_
  refine c_aload C d_RO_init_12 ?_
  refine c_bipush C d_RO_init_13 ib_24 ?_
  refine c_newA C (i := 32) (n := 24) (ty := .int) (gc := g.1) (t0 := 0) rfl rfl (fun _ => rfl) (fun _ => by rw [jcell_int (by decide +kernel), show jl 32 = 24 by decide +kernel, show jI0 32 = fun _ => 0 from rfl]) rfl (by decide) (by decide) (by decide) (by decide) (by unfold jclo; decide +kernel) (by decide +kernel) iw_81 (by decide) (by decide) d_RO_init_15 (fun ad2 ea2 => ?_)
  refine c_putR C jcl_RO (by decide +kernel) (k := 1) (by decide) rfl (by decide +kernel) rfl rfl w_93 (fun _ => rfl) (fun _ => rfl) d_RO_init_17 ?_
  refine c_aload C d_RO_init_20 ?_
  refine c_iconst C d_RO_init_21 ic_1 ?_
  refine c_putI C (v := (1 : Int32)) jcl_RO (by decide +kernel) (k := 2) (by decide) rfl (by decide +kernel) rfl rfl w_95 rfl rfl d_RO_init_22 ?_
  exact c_ret C (by decide +kernel) (by decide +kernel) (by decide +kernel) (by unfold jclo; decide +kernel) (by decide +kernel) (by decide +kernel) d_RO_init_25
theorem d_RU_init_0 : decode prog_10_method_1_code 0 = .ok (.aload_n 0, 1) := by decide +kernel
theorem d_RU_init_1 : decode prog_10_method_1_code 1 = .ok (.invokespecial 3, 3) := by decide +kernel
theorem d_RU_init_4 : decode prog_10_method_1_code 4 = .ok (.aload_n 0, 1) := by decide +kernel
theorem d_RU_init_5 : decode prog_10_method_1_code 5 = .ok (.new 9, 3) := by decide +kernel
theorem d_RU_init_8 : decode prog_10_method_1_code 8 = .ok (.dup, 1) := by decide +kernel
theorem d_RU_init_9 : decode prog_10_method_1_code 9 = .ok (.invokespecial 11, 3) := by decide +kernel
theorem d_RU_init_12 : decode prog_10_method_1_code 12 = .ok (.putfield 12, 3) := by decide +kernel
theorem d_RU_init_15 : decode prog_10_method_1_code 15 = .ok (.return_, 1) := by decide +kernel
theorem d_NE_init_0 : decode prog_6_method_1_code 0 = .ok (.aload_n 0, 1) := by decide +kernel
theorem d_NE_init_1 : decode prog_6_method_1_code 1 = .ok (.invokespecial 3, 3) := by decide +kernel
theorem d_NE_init_4 : decode prog_6_method_1_code 4 = .ok (.aload_n 0, 1) := by decide +kernel
theorem d_NE_init_5 : decode prog_6_method_1_code 5 = .ok (.bipush 24, 2) := by decide +kernel
theorem d_NE_init_7 : decode prog_6_method_1_code 7 = .ok (.newarray .int, 2) := by decide +kernel
theorem d_NE_init_9 : decode prog_6_method_1_code 9 = .ok (.putfield 9, 3) := by decide +kernel
theorem d_NE_init_12 : decode prog_6_method_1_code 12 = .ok (.aload_n 0, 1) := by decide +kernel
theorem d_NE_init_13 : decode prog_6_method_1_code 13 = .ok (.iconst 1, 1) := by decide +kernel
theorem d_NE_init_14 : decode prog_6_method_1_code 14 = .ok (.putfield 15, 3) := by decide +kernel
theorem d_NE_init_17 : decode prog_6_method_1_code 17 = .ok (.return_, 1) := by decide +kernel
set_option maxRecDepth 100000 in
set_option maxHeartbeats 4000000 in
theorem i_NE_34 (l : Launch) (D : va_G) (g : ClassId × ClassId × ClassId) (h0 sz : Nat) : cS l D g ⟨"OutOrder$Net", "<init>", "()V"⟩ prog_6_method_1_code 1 14 1 24 34 [34, 35] h0 sz := by
  unfold cS
  refine cS_of (own := "OutOrder$Net") (by decide +kernel) rfl rfl (fun Z _ _ C => ?_)
  show cJ Z D g (cA h0 sz) 0 0 (cQ Z D g 34 [34, 35] h0 sz 1 24) 0 34 h0 [] [] id [] []
  refine c_aload C d_NE_init_0 ?_
  refine c_obj C iw_116 iw_23 iw_obj (by decide) (Nat.le_of_ble_eq_true rfl) d_NE_init_1 ?_
  refine c_aload C d_NE_init_4 ?_
  refine c_bipush C d_NE_init_5 ib_24 ?_
  refine c_newA C (i := 35) (n := 24) (ty := .int) (gc := g.1) (t0 := 0) rfl rfl (fun _ => rfl) (fun _ => by rw [jcell_int (by decide +kernel), show jl 35 = 24 by decide +kernel, show jI0 35 = fun _ => 0 from rfl]) rfl (by decide) (by decide) (by decide) (by decide) (by unfold jclo; decide +kernel) (by decide +kernel) iw_81 (by decide) (by decide) d_NE_init_7 (fun ad1 ea1 => ?_)
  refine c_putR C jcl_NE (by decide +kernel) (k := 0) (by decide) rfl (by decide +kernel) rfl rfl w_117 (fun _ => rfl) (fun _ => rfl) d_NE_init_9 ?_
  refine c_aload C d_NE_init_12 ?_
  refine c_iconst C d_NE_init_13 ic_1 ?_
  refine c_putI C (v := (1 : Int32)) jcl_NE (by decide +kernel) (k := 2) (by decide) rfl (by decide +kernel) rfl rfl w_126 rfl rfl d_NE_init_14 ?_
  exact c_ret C (by decide +kernel) (by decide +kernel) (by decide +kernel) (by unfold jclo; decide +kernel) (by decide +kernel) (by decide +kernel) d_NE_init_17
set_option maxRecDepth 100000 in
set_option maxHeartbeats 4000000 in
theorem i_RU_33 (l : Launch) (D : va_G) (g : ClassId × ClassId × ClassId) (h0 sz : Nat) : cS l D g ⟨"OutOrder$Rules", "<init>", "()V"⟩ prog_10_method_1_code 2 34 2 27 33 [33, 34, 35] h0 sz := by
  unfold cS
  refine cS_of (own := "OutOrder$Rules") (by decide +kernel) rfl rfl (fun Z _ _ C => ?_)
  show cJ Z D g (cA h0 sz) 0 0 (cQ Z D g 33 [33, 34, 35] h0 sz 2 27) 0 33 h0 [] [] id [] []
  refine c_aload C d_RU_init_0 ?_
  refine c_obj C iw_110 iw_23 iw_obj (by decide) (Nat.le_of_ble_eq_true rfl) d_RU_init_1 ?_
  refine c_aload C d_RU_init_4 ?_
  refine c_child C (i := 34) (Lc := [34, 35]) (f := 1) (L := 14) (mc2 := 1) (ms2 := 24) (y := ⟨"OutOrder$Net", "<init>", "()V"⟩) (bytes := prog_6_method_1_code) jcl_NE (by decide +kernel) iw_111 iw_112 w_6 (by decide +kernel) (List.mem_of_getElem? (i := 4) rfl) iw_114 iw_115 rfl rfl (by decide +kernel) (by decide) (by decide) (Nat.le_of_ble_eq_true rfl) (by decide) (by decide) (by unfold jclo; decide +kernel) (by unfold jclo; decide +kernel) (by decide +kernel) (by decide +kernel) (by decide +kernel) (fun q sz => i_NE_34 (jZl Z) D g q sz) d_RU_init_5 d_RU_init_8 d_RU_init_9 (fun ad1 ea1 => ?_)
  refine c_putR C jcl_RU (by decide +kernel) (k := 0) (by decide) rfl (by decide +kernel) rfl rfl w_137 (fun _ => rfl) (fun _ => rfl) d_RU_init_12 ?_
  exact c_ret C (by decide +kernel) (by decide +kernel) (by decide +kernel) (by unfold jclo; decide +kernel) (by decide +kernel) (by decide +kernel) d_RU_init_15
theorem d_LE_init_0 : decode prog_4_method_1_code 0 = .ok (.aload_n 0, 1) := by decide +kernel
theorem d_LE_init_1 : decode prog_4_method_1_code 1 = .ok (.invokespecial 3, 3) := by decide +kernel
theorem d_LE_init_4 : decode prog_4_method_1_code 4 = .ok (.aload_n 0, 1) := by decide +kernel
theorem d_LE_init_5 : decode prog_4_method_1_code 5 = .ok (.sipush 4096, 3) := by decide +kernel
theorem d_LE_init_8 : decode prog_4_method_1_code 8 = .ok (.newarray .int, 2) := by decide +kernel
theorem d_LE_init_10 : decode prog_4_method_1_code 10 = .ok (.putfield 9, 3) := by decide +kernel
theorem d_LE_init_13 : decode prog_4_method_1_code 13 = .ok (.aload_n 0, 1) := by decide +kernel
theorem d_LE_init_14 : decode prog_4_method_1_code 14 = .ok (.sipush 4096, 3) := by decide +kernel
theorem d_LE_init_17 : decode prog_4_method_1_code 17 = .ok (.newarray .int, 2) := by decide +kernel
theorem d_LE_init_19 : decode prog_4_method_1_code 19 = .ok (.putfield 15, 3) := by decide +kernel
theorem d_LE_init_22 : decode prog_4_method_1_code 22 = .ok (.aload_n 0, 1) := by decide +kernel
theorem d_LE_init_23 : decode prog_4_method_1_code 23 = .ok (.bipush 13, 2) := by decide +kernel
theorem d_LE_init_25 : decode prog_4_method_1_code 25 = .ok (.bipush 12, 2) := by decide +kernel
theorem d_LE_init_27 : decode prog_4_method_1_code 27 = .ok (.multianewarray 18 2, 4) := by decide +kernel
theorem d_LE_init_31 : decode prog_4_method_1_code 31 = .ok (.putfield 20, 3) := by decide +kernel
theorem d_LE_init_34 : decode prog_4_method_1_code 34 = .ok (.aload_n 0, 1) := by decide +kernel
theorem d_LE_init_35 : decode prog_4_method_1_code 35 = .ok (.new 23, 3) := by decide +kernel
theorem d_LE_init_38 : decode prog_4_method_1_code 38 = .ok (.dup, 1) := by decide +kernel
theorem d_LE_init_39 : decode prog_4_method_1_code 39 = .ok (.invokespecial 25, 3) := by decide +kernel
theorem d_LE_init_42 : decode prog_4_method_1_code 42 = .ok (.putfield 26, 3) := by decide +kernel
theorem d_LE_init_45 : decode prog_4_method_1_code 45 = .ok (.return_, 1) := by decide +kernel
set_option maxRecDepth 100000 in
set_option maxHeartbeats 4000000 in
theorem i_NE_53 (l : Launch) (D : va_G) (g : ClassId × ClassId × ClassId) (h0 sz : Nat) : cS l D g ⟨"OutOrder$Net", "<init>", "()V"⟩ prog_6_method_1_code 1 14 1 24 53 [53, 54] h0 sz := by
  unfold cS
  refine cS_of (own := "OutOrder$Net") (by decide +kernel) rfl rfl (fun Z _ _ C => ?_)
  show cJ Z D g (cA h0 sz) 0 0 (cQ Z D g 53 [53, 54] h0 sz 1 24) 0 53 h0 [] [] id [] []
  refine c_aload C d_NE_init_0 ?_
  refine c_obj C iw_116 iw_23 iw_obj (by decide) (Nat.le_of_ble_eq_true rfl) d_NE_init_1 ?_
  refine c_aload C d_NE_init_4 ?_
  refine c_bipush C d_NE_init_5 ib_24 ?_
  refine c_newA C (i := 54) (n := 24) (ty := .int) (gc := g.1) (t0 := 0) rfl rfl (fun _ => rfl) (fun _ => by rw [jcell_int (by decide +kernel), show jl 54 = 24 by decide +kernel, show jI0 54 = fun _ => 0 from rfl]) rfl (by decide) (by decide) (by decide) (by decide) (by unfold jclo; decide +kernel) (by decide +kernel) iw_81 (by decide) (by decide) d_NE_init_7 (fun ad1 ea1 => ?_)
  refine c_putR C jcl_NE (by decide +kernel) (k := 0) (by decide) rfl (by decide +kernel) rfl rfl w_117 (fun _ => rfl) (fun _ => rfl) d_NE_init_9 ?_
  refine c_aload C d_NE_init_12 ?_
  refine c_iconst C d_NE_init_13 ic_1 ?_
  refine c_putI C (v := (1 : Int32)) jcl_NE (by decide +kernel) (k := 2) (by decide) rfl (by decide +kernel) rfl rfl w_126 rfl rfl d_NE_init_14 ?_
  exact c_ret C (by decide +kernel) (by decide +kernel) (by decide +kernel) (by unfold jclo; decide +kernel) (by decide +kernel) (by decide +kernel) d_NE_init_17
set_option maxRecDepth 100000 in
set_option maxHeartbeats 4000000 in
theorem i_LE_36 (l : Launch) (D : va_G) (g : ClassId × ClassId × ClassId) (h0 sz : Nat) : cS l D g ⟨"OutOrder$Least", "<init>", "()V"⟩ prog_4_method_1_code 2 34 18 8388 36 [36, 37, 38, 39, 40, 41, 42, 43, 44, 45, 46, 47, 48, 49, 50, 51, 52, 53, 54] h0 sz := by
  unfold cS
  refine cS_of (own := "OutOrder$Least") (by decide +kernel) rfl rfl (fun Z _ _ C => ?_)
  show cJ Z D g (cA h0 sz) 0 0 (cQ Z D g 36 [36, 37, 38, 39, 40, 41, 42, 43, 44, 45, 46, 47, 48, 49, 50, 51, 52, 53, 54] h0 sz 18 8388) 0 36 h0 [] [] id [] []
  refine c_aload C d_LE_init_0 ?_
  refine c_obj C iw_146 iw_23 iw_obj (by decide) (Nat.le_of_ble_eq_true rfl) d_LE_init_1 ?_
  refine c_aload C d_LE_init_4 ?_
  refine c_sipush C d_LE_init_5 is_4096 ?_
  refine c_newA C (i := 37) (n := 4096) (ty := .int) (gc := g.1) (t0 := 0) rfl rfl (fun _ => rfl) (fun _ => by rw [jcell_int (by decide +kernel), show jl 37 = 4096 by decide +kernel, show jI0 37 = fun _ => 0 from rfl]) rfl (by decide) (by decide) (by decide) (by decide) (by unfold jclo; decide +kernel) (by decide +kernel) iw_81 (by decide) (by decide) d_LE_init_8 (fun ad1 ea1 => ?_)
  refine c_putR C jcl_LE (by decide +kernel) (k := 0) (by decide) rfl (by decide +kernel) rfl rfl w_150 (fun _ => rfl) (fun _ => rfl) d_LE_init_10 ?_
  refine c_aload C d_LE_init_13 ?_
  refine c_sipush C d_LE_init_14 is_4096 ?_
  refine c_newA C (i := 38) (n := 4096) (ty := .int) (gc := g.1) (t0 := 0) rfl rfl (fun _ => rfl) (fun _ => by rw [jcell_int (by decide +kernel), show jl 38 = 4096 by decide +kernel, show jI0 38 = fun _ => 0 from rfl]) rfl (by decide) (by decide) (by decide) (by decide) (by unfold jclo; decide +kernel) (by decide +kernel) iw_81 (by decide) (by decide) d_LE_init_17 (fun ad2 ea2 => ?_)
  refine c_putR C jcl_LE (by decide +kernel) (k := 1) (by decide) rfl (by decide +kernel) rfl rfl w_152 (fun _ => rfl) (fun _ => rfl) d_LE_init_19 ?_
  refine c_aload C d_LE_init_22 ?_
  refine c_bipush C d_LE_init_23 ib_13 ?_
  refine c_bipush C d_LE_init_25 ib_12 ?_
  refine c_multi C (i := 39) (n := 13) (k := 12) (by decide) (by decide) (by decide) (by decide) (by decide) (by decide) (by decide +kernel) (by decide +kernel) (fun j => jw_at_39 j) (by decide +kernel) (fun j hj => jI0_row_39 j hj) (by decide +kernel) (by unfold jclo; decide +kernel) (by decide +kernel) iw_147 (by decide) (by decide) d_LE_init_27 (fun ad3 ea3 => ?_)
  refine c_putR C jcl_LE (by decide +kernel) (k := 2) (by decide) rfl (by decide +kernel) rfl rfl w_154 (fun _ => rfl) (fun _ => rfl) d_LE_init_31 ?_
  refine c_aload C d_LE_init_34 ?_
  refine c_child C (i := 53) (Lc := [53, 54]) (f := 1) (L := 14) (mc2 := 1) (ms2 := 24) (y := ⟨"OutOrder$Net", "<init>", "()V"⟩) (bytes := prog_6_method_1_code) jcl_NE (by decide +kernel) iw_148 iw_112 w_6 (by decide +kernel) (List.mem_of_getElem? (i := 6) rfl) iw_114 iw_115 rfl rfl (by decide +kernel) (by decide) (by decide) (Nat.le_of_ble_eq_true rfl) (by decide) (by decide) (by unfold jclo; decide +kernel) (by unfold jclo; decide +kernel) (by decide +kernel) (by decide +kernel) (by decide +kernel) (fun q sz => i_NE_53 (jZl Z) D g q sz) d_LE_init_35 d_LE_init_38 d_LE_init_39 (fun ad4 ea4 => ?_)
  refine c_putR C jcl_LE (by decide +kernel) (k := 3) (by decide) rfl (by decide +kernel) rfl rfl w_155 (fun _ => rfl) (fun _ => rfl) d_LE_init_42 ?_
  exact c_ret C (by decide +kernel) (by decide +kernel) (by decide +kernel) (by unfold jclo; decide +kernel) (by decide +kernel) (by decide +kernel) d_LE_init_45
theorem d_FN_init_0 : decode prog_2_method_1_code 0 = .ok (.aload_n 0, 1) := by decide +kernel
theorem d_FN_init_1 : decode prog_2_method_1_code 1 = .ok (.invokespecial 3, 3) := by decide +kernel
theorem d_FN_init_4 : decode prog_2_method_1_code 4 = .ok (.aload_n 0, 1) := by decide +kernel
theorem d_FN_init_5 : decode prog_2_method_1_code 5 = .ok (.new 9, 3) := by decide +kernel
theorem d_FN_init_8 : decode prog_2_method_1_code 8 = .ok (.dup, 1) := by decide +kernel
theorem d_FN_init_9 : decode prog_2_method_1_code 9 = .ok (.invokespecial 11, 3) := by decide +kernel
theorem d_FN_init_12 : decode prog_2_method_1_code 12 = .ok (.putfield 12, 3) := by decide +kernel
theorem d_FN_init_15 : decode prog_2_method_1_code 15 = .ok (.aload_n 0, 1) := by decide +kernel
theorem d_FN_init_16 : decode prog_2_method_1_code 16 = .ok (.sipush 288, 3) := by decide +kernel
theorem d_FN_init_19 : decode prog_2_method_1_code 19 = .ok (.newarray .int, 2) := by decide +kernel
theorem d_FN_init_21 : decode prog_2_method_1_code 21 = .ok (.putfield 18, 3) := by decide +kernel
theorem d_FN_init_24 : decode prog_2_method_1_code 24 = .ok (.aload_n 0, 1) := by decide +kernel
theorem d_FN_init_25 : decode prog_2_method_1_code 25 = .ok (.bipush 24, 2) := by decide +kernel
theorem d_FN_init_27 : decode prog_2_method_1_code 27 = .ok (.newarray .int, 2) := by decide +kernel
theorem d_FN_init_29 : decode prog_2_method_1_code 29 = .ok (.putfield 22, 3) := by decide +kernel
theorem d_FN_init_32 : decode prog_2_method_1_code 32 = .ok (.aload_n 0, 1) := by decide +kernel
theorem d_FN_init_33 : decode prog_2_method_1_code 33 = .ok (.bipush 24, 2) := by decide +kernel
theorem d_FN_init_35 : decode prog_2_method_1_code 35 = .ok (.newarray .int, 2) := by decide +kernel
theorem d_FN_init_37 : decode prog_2_method_1_code 37 = .ok (.putfield 25, 3) := by decide +kernel
theorem d_FN_init_40 : decode prog_2_method_1_code 40 = .ok (.aload_n 0, 1) := by decide +kernel
theorem d_FN_init_41 : decode prog_2_method_1_code 41 = .ok (.bipush 24, 2) := by decide +kernel
theorem d_FN_init_43 : decode prog_2_method_1_code 43 = .ok (.newarray .int, 2) := by decide +kernel
theorem d_FN_init_45 : decode prog_2_method_1_code 45 = .ok (.putfield 28, 3) := by decide +kernel
theorem d_FN_init_48 : decode prog_2_method_1_code 48 = .ok (.aload_n 0, 1) := by decide +kernel
theorem d_FN_init_49 : decode prog_2_method_1_code 49 = .ok (.bipush 24, 2) := by decide +kernel
theorem d_FN_init_51 : decode prog_2_method_1_code 51 = .ok (.newarray .int, 2) := by decide +kernel
theorem d_FN_init_53 : decode prog_2_method_1_code 53 = .ok (.putfield 31, 3) := by decide +kernel
theorem d_FN_init_56 : decode prog_2_method_1_code 56 = .ok (.aload_n 0, 1) := by decide +kernel
theorem d_FN_init_57 : decode prog_2_method_1_code 57 = .ok (.bipush 24, 2) := by decide +kernel
theorem d_FN_init_59 : decode prog_2_method_1_code 59 = .ok (.newarray .int, 2) := by decide +kernel
theorem d_FN_init_61 : decode prog_2_method_1_code 61 = .ok (.putfield 34, 3) := by decide +kernel
theorem d_FN_init_64 : decode prog_2_method_1_code 64 = .ok (.return_, 1) := by decide +kernel
set_option maxRecDepth 100000 in
set_option maxHeartbeats 4000000 in
theorem i_NE_56 (l : Launch) (D : va_G) (g : ClassId × ClassId × ClassId) (h0 sz : Nat) : cS l D g ⟨"OutOrder$Net", "<init>", "()V"⟩ prog_6_method_1_code 1 14 1 24 56 [56, 57] h0 sz := by
  unfold cS
  refine cS_of (own := "OutOrder$Net") (by decide +kernel) rfl rfl (fun Z _ _ C => ?_)
  show cJ Z D g (cA h0 sz) 0 0 (cQ Z D g 56 [56, 57] h0 sz 1 24) 0 56 h0 [] [] id [] []
  refine c_aload C d_NE_init_0 ?_
  refine c_obj C iw_116 iw_23 iw_obj (by decide) (Nat.le_of_ble_eq_true rfl) d_NE_init_1 ?_
  refine c_aload C d_NE_init_4 ?_
  refine c_bipush C d_NE_init_5 ib_24 ?_
  refine c_newA C (i := 57) (n := 24) (ty := .int) (gc := g.1) (t0 := 0) rfl rfl (fun _ => rfl) (fun _ => by rw [jcell_int (by decide +kernel), show jl 57 = 24 by decide +kernel, show jI0 57 = fun _ => 0 from rfl]) rfl (by decide) (by decide) (by decide) (by decide) (by unfold jclo; decide +kernel) (by decide +kernel) iw_81 (by decide) (by decide) d_NE_init_7 (fun ad1 ea1 => ?_)
  refine c_putR C jcl_NE (by decide +kernel) (k := 0) (by decide) rfl (by decide +kernel) rfl rfl w_117 (fun _ => rfl) (fun _ => rfl) d_NE_init_9 ?_
  refine c_aload C d_NE_init_12 ?_
  refine c_iconst C d_NE_init_13 ic_1 ?_
  refine c_putI C (v := (1 : Int32)) jcl_NE (by decide +kernel) (k := 2) (by decide) rfl (by decide +kernel) rfl rfl w_126 rfl rfl d_NE_init_14 ?_
  exact c_ret C (by decide +kernel) (by decide +kernel) (by decide +kernel) (by unfold jclo; decide +kernel) (by decide +kernel) (by decide +kernel) d_NE_init_17
set_option maxRecDepth 100000 in
set_option maxHeartbeats 4000000 in
theorem i_FN_55 (l : Launch) (D : va_G) (g : ClassId × ClassId × ClassId) (h0 sz : Nat) : cS l D g ⟨"OutOrder$FullNet", "<init>", "()V"⟩ prog_2_method_1_code 2 34 8 435 55 [55, 56, 57, 58, 59, 60, 61, 62, 63] h0 sz := by
  unfold cS
  refine cS_of (own := "OutOrder$FullNet") (by decide +kernel) rfl rfl (fun Z _ _ C => ?_)
  show cJ Z D g (cA h0 sz) 0 0 (cQ Z D g 55 [55, 56, 57, 58, 59, 60, 61, 62, 63] h0 sz 8 435) 0 55 h0 [] [] id [] []
  refine c_aload C d_FN_init_0 ?_
  refine c_obj C iw_170 iw_23 iw_obj (by decide) (Nat.le_of_ble_eq_true rfl) d_FN_init_1 ?_
  refine c_aload C d_FN_init_4 ?_
  refine c_child C (i := 56) (Lc := [56, 57]) (f := 1) (L := 14) (mc2 := 1) (ms2 := 24) (y := ⟨"OutOrder$Net", "<init>", "()V"⟩) (bytes := prog_6_method_1_code) jcl_NE (by decide +kernel) iw_171 iw_112 w_6 (by decide +kernel) (List.mem_of_getElem? (i := 8) rfl) iw_114 iw_115 rfl rfl (by decide +kernel) (by decide) (by decide) (Nat.le_of_ble_eq_true rfl) (by decide) (by decide) (by unfold jclo; decide +kernel) (by unfold jclo; decide +kernel) (by decide +kernel) (by decide +kernel) (by decide +kernel) (fun q sz => i_NE_56 (jZl Z) D g q sz) d_FN_init_5 d_FN_init_8 d_FN_init_9 (fun ad1 ea1 => ?_)
  refine c_putR C jcl_FN (by decide +kernel) (k := 0) (by decide) rfl (by decide +kernel) rfl rfl w_173 (fun _ => rfl) (fun _ => rfl) d_FN_init_12 ?_
  refine c_aload C d_FN_init_15 ?_
  refine c_sipush C d_FN_init_16 is_288 ?_
  refine c_newA C (i := 58) (n := 288) (ty := .int) (gc := g.1) (t0 := 0) rfl rfl (fun _ => rfl) (fun _ => by rw [jcell_int (by decide +kernel), show jl 58 = 288 by decide +kernel, show jI0 58 = fun _ => 0 from rfl]) rfl (by decide) (by decide) (by decide) (by decide) (by unfold jclo; decide +kernel) (by decide +kernel) iw_81 (by decide) (by decide) d_FN_init_19 (fun ad2 ea2 => ?_)
  refine c_putR C jcl_FN (by decide +kernel) (k := 1) (by decide) rfl (by decide +kernel) rfl rfl w_174 (fun _ => rfl) (fun _ => rfl) d_FN_init_21 ?_
  refine c_aload C d_FN_init_24 ?_
  refine c_bipush C d_FN_init_25 ib_24 ?_
  refine c_newA C (i := 59) (n := 24) (ty := .int) (gc := g.1) (t0 := 0) rfl rfl (fun _ => rfl) (fun _ => by rw [jcell_int (by decide +kernel), show jl 59 = 24 by decide +kernel, show jI0 59 = fun _ => 0 from rfl]) rfl (by decide) (by decide) (by decide) (by decide) (by unfold jclo; decide +kernel) (by decide +kernel) iw_81 (by decide) (by decide) d_FN_init_27 (fun ad3 ea3 => ?_)
  refine c_putR C jcl_FN (by decide +kernel) (k := 2) (by decide) rfl (by decide +kernel) rfl rfl w_176 (fun _ => rfl) (fun _ => rfl) d_FN_init_29 ?_
  refine c_aload C d_FN_init_32 ?_
  refine c_bipush C d_FN_init_33 ib_24 ?_
  refine c_newA C (i := 60) (n := 24) (ty := .int) (gc := g.1) (t0 := 0) rfl rfl (fun _ => rfl) (fun _ => by rw [jcell_int (by decide +kernel), show jl 60 = 24 by decide +kernel, show jI0 60 = fun _ => 0 from rfl]) rfl (by decide) (by decide) (by decide) (by decide) (by unfold jclo; decide +kernel) (by decide +kernel) iw_81 (by decide) (by decide) d_FN_init_35 (fun ad4 ea4 => ?_)
  refine c_putR C jcl_FN (by decide +kernel) (k := 3) (by decide) rfl (by decide +kernel) rfl rfl w_178 (fun _ => rfl) (fun _ => rfl) d_FN_init_37 ?_
  refine c_aload C d_FN_init_40 ?_
  refine c_bipush C d_FN_init_41 ib_24 ?_
  refine c_newA C (i := 61) (n := 24) (ty := .int) (gc := g.1) (t0 := 0) rfl rfl (fun _ => rfl) (fun _ => by rw [jcell_int (by decide +kernel), show jl 61 = 24 by decide +kernel, show jI0 61 = fun _ => 0 from rfl]) rfl (by decide) (by decide) (by decide) (by decide) (by unfold jclo; decide +kernel) (by decide +kernel) iw_81 (by decide) (by decide) d_FN_init_43 (fun ad5 ea5 => ?_)
  refine c_putR C jcl_FN (by decide +kernel) (k := 4) (by decide) rfl (by decide +kernel) rfl rfl w_180 (fun _ => rfl) (fun _ => rfl) d_FN_init_45 ?_
  refine c_aload C d_FN_init_48 ?_
  refine c_bipush C d_FN_init_49 ib_24 ?_
  refine c_newA C (i := 62) (n := 24) (ty := .int) (gc := g.1) (t0 := 0) rfl rfl (fun _ => rfl) (fun _ => by rw [jcell_int (by decide +kernel), show jl 62 = 24 by decide +kernel, show jI0 62 = fun _ => 0 from rfl]) rfl (by decide) (by decide) (by decide) (by decide) (by unfold jclo; decide +kernel) (by decide +kernel) iw_81 (by decide) (by decide) d_FN_init_51 (fun ad6 ea6 => ?_)
  refine c_putR C jcl_FN (by decide +kernel) (k := 5) (by decide) rfl (by decide +kernel) rfl rfl w_183 (fun _ => rfl) (fun _ => rfl) d_FN_init_53 ?_
  refine c_aload C d_FN_init_56 ?_
  refine c_bipush C d_FN_init_57 ib_24 ?_
  refine c_newA C (i := 63) (n := 24) (ty := .int) (gc := g.1) (t0 := 0) rfl rfl (fun _ => rfl) (fun _ => by rw [jcell_int (by decide +kernel), show jl 63 = 24 by decide +kernel, show jI0 63 = fun _ => 0 from rfl]) rfl (by decide) (by decide) (by decide) (by decide) (by unfold jclo; decide +kernel) (by decide +kernel) iw_81 (by decide) (by decide) d_FN_init_59 (fun ad7 ea7 => ?_)
  refine c_putR C jcl_FN (by decide +kernel) (k := 6) (by decide) rfl (by decide +kernel) rfl rfl w_186 (fun _ => rfl) (fun _ => rfl) d_FN_init_61 ?_
  exact c_ret C (by decide +kernel) (by decide +kernel) (by decide +kernel) (by unfold jclo; decide +kernel) (by decide +kernel) (by decide +kernel) d_FN_init_64
theorem d_GO_init_0 : decode prog_3_method_1_code 0 = .ok (.aload_n 0, 1) := by decide +kernel
theorem d_GO_init_1 : decode prog_3_method_1_code 1 = .ok (.invokespecial 3, 3) := by decide +kernel
theorem d_GO_init_4 : decode prog_3_method_1_code 4 = .ok (.aload_n 0, 1) := by decide +kernel
theorem d_GO_init_5 : decode prog_3_method_1_code 5 = .ok (.new 9, 3) := by decide +kernel
theorem d_GO_init_8 : decode prog_3_method_1_code 8 = .ok (.dup, 1) := by decide +kernel
theorem d_GO_init_9 : decode prog_3_method_1_code 9 = .ok (.invokespecial 11, 3) := by decide +kernel
theorem d_GO_init_12 : decode prog_3_method_1_code 12 = .ok (.putfield 12, 3) := by decide +kernel
theorem d_GO_init_15 : decode prog_3_method_1_code 15 = .ok (.aload_n 0, 1) := by decide +kernel
theorem d_GO_init_16 : decode prog_3_method_1_code 16 = .ok (.bipush 24, 2) := by decide +kernel
theorem d_GO_init_18 : decode prog_3_method_1_code 18 = .ok (.newarray .int, 2) := by decide +kernel
theorem d_GO_init_20 : decode prog_3_method_1_code 20 = .ok (.putfield 18, 3) := by decide +kernel
theorem d_GO_init_23 : decode prog_3_method_1_code 23 = .ok (.return_, 1) := by decide +kernel
set_option maxRecDepth 100000 in
set_option maxHeartbeats 4000000 in
theorem i_NE_65 (l : Launch) (D : va_G) (g : ClassId × ClassId × ClassId) (h0 sz : Nat) : cS l D g ⟨"OutOrder$Net", "<init>", "()V"⟩ prog_6_method_1_code 1 14 1 24 65 [65, 66] h0 sz := by
  unfold cS
  refine cS_of (own := "OutOrder$Net") (by decide +kernel) rfl rfl (fun Z _ _ C => ?_)
  show cJ Z D g (cA h0 sz) 0 0 (cQ Z D g 65 [65, 66] h0 sz 1 24) 0 65 h0 [] [] id [] []
  refine c_aload C d_NE_init_0 ?_
  refine c_obj C iw_116 iw_23 iw_obj (by decide) (Nat.le_of_ble_eq_true rfl) d_NE_init_1 ?_
  refine c_aload C d_NE_init_4 ?_
  refine c_bipush C d_NE_init_5 ib_24 ?_
  refine c_newA C (i := 66) (n := 24) (ty := .int) (gc := g.1) (t0 := 0) rfl rfl (fun _ => rfl) (fun _ => by rw [jcell_int (by decide +kernel), show jl 66 = 24 by decide +kernel, show jI0 66 = fun _ => 0 from rfl]) rfl (by decide) (by decide) (by decide) (by decide) (by unfold jclo; decide +kernel) (by decide +kernel) iw_81 (by decide) (by decide) d_NE_init_7 (fun ad1 ea1 => ?_)
  refine c_putR C jcl_NE (by decide +kernel) (k := 0) (by decide) rfl (by decide +kernel) rfl rfl w_117 (fun _ => rfl) (fun _ => rfl) d_NE_init_9 ?_
  refine c_aload C d_NE_init_12 ?_
  refine c_iconst C d_NE_init_13 ic_1 ?_
  refine c_putI C (v := (1 : Int32)) jcl_NE (by decide +kernel) (k := 2) (by decide) rfl (by decide +kernel) rfl rfl w_126 rfl rfl d_NE_init_14 ?_
  exact c_ret C (by decide +kernel) (by decide +kernel) (by decide +kernel) (by unfold jclo; decide +kernel) (by decide +kernel) (by decide +kernel) d_NE_init_17
set_option maxRecDepth 100000 in
set_option maxHeartbeats 4000000 in
theorem i_GO_64 (l : Launch) (D : va_G) (g : ClassId × ClassId × ClassId) (h0 sz : Nat) : cS l D g ⟨"OutOrder$Going", "<init>", "()V"⟩ prog_3_method_1_code 2 34 3 51 64 [64, 65, 66, 67] h0 sz := by
  unfold cS
  refine cS_of (own := "OutOrder$Going") (by decide +kernel) rfl rfl (fun Z _ _ C => ?_)
  show cJ Z D g (cA h0 sz) 0 0 (cQ Z D g 64 [64, 65, 66, 67] h0 sz 3 51) 0 64 h0 [] [] id [] []
  refine c_aload C d_GO_init_0 ?_
  refine c_obj C iw_220 iw_23 iw_obj (by decide) (Nat.le_of_ble_eq_true rfl) d_GO_init_1 ?_
  refine c_aload C d_GO_init_4 ?_
  refine c_child C (i := 65) (Lc := [65, 66]) (f := 1) (L := 14) (mc2 := 1) (ms2 := 24) (y := ⟨"OutOrder$Net", "<init>", "()V"⟩) (bytes := prog_6_method_1_code) jcl_NE (by decide +kernel) iw_221 iw_112 w_6 (by decide +kernel) (List.mem_of_getElem? (i := 10) rfl) iw_114 iw_115 rfl rfl (by decide +kernel) (by decide) (by decide) (Nat.le_of_ble_eq_true rfl) (by decide) (by decide) (by unfold jclo; decide +kernel) (by unfold jclo; decide +kernel) (by decide +kernel) (by decide +kernel) (by decide +kernel) (fun q sz => i_NE_65 (jZl Z) D g q sz) d_GO_init_5 d_GO_init_8 d_GO_init_9 (fun ad1 ea1 => ?_)
  refine c_putR C jcl_GO (by decide +kernel) (k := 0) (by decide) rfl (by decide +kernel) rfl rfl w_223 (fun _ => rfl) (fun _ => rfl) d_GO_init_12 ?_
  refine c_aload C d_GO_init_15 ?_
  refine c_bipush C d_GO_init_16 ib_24 ?_
  refine c_newA C (i := 67) (n := 24) (ty := .int) (gc := g.1) (t0 := 0) rfl rfl (fun _ => rfl) (fun _ => by rw [jcell_int (by decide +kernel), show jl 67 = 24 by decide +kernel, show jI0 67 = fun _ => 0 from rfl]) rfl (by decide) (by decide) (by decide) (by decide) (by unfold jclo; decide +kernel) (by decide +kernel) iw_81 (by decide) (by decide) d_GO_init_18 (fun ad2 ea2 => ?_)
  refine c_putR C jcl_GO (by decide +kernel) (k := 1) (by decide) rfl (by decide +kernel) rfl rfl w_225 (fun _ => rfl) (fun _ => rfl) d_GO_init_20 ?_
  exact c_ret C (by decide +kernel) (by decide +kernel) (by decide +kernel) (by unfold jclo; decide +kernel) (by decide +kernel) (by decide +kernel) d_GO_init_23
theorem d_WO_init_0 : decode prog_12_method_1_code 0 = .ok (.aload_n 0, 1) := by decide +kernel
theorem d_WO_init_1 : decode prog_12_method_1_code 1 = .ok (.invokespecial 3, 3) := by decide +kernel
theorem d_WO_init_4 : decode prog_12_method_1_code 4 = .ok (.aload_n 0, 1) := by decide +kernel
theorem d_WO_init_5 : decode prog_12_method_1_code 5 = .ok (.bipush 24, 2) := by decide +kernel
theorem d_WO_init_7 : decode prog_12_method_1_code 7 = .ok (.bipush 24, 2) := by decide +kernel
theorem d_WO_init_9 : decode prog_12_method_1_code 9 = .ok (.multianewarray 9 2, 4) := by decide +kernel
theorem d_WO_init_13 : decode prog_12_method_1_code 13 = .ok (.putfield 11, 3) := by decide +kernel
theorem d_WO_init_16 : decode prog_12_method_1_code 16 = .ok (.aload_n 0, 1) := by decide +kernel
theorem d_WO_init_17 : decode prog_12_method_1_code 17 = .ok (.bipush 24, 2) := by decide +kernel
theorem d_WO_init_19 : decode prog_12_method_1_code 19 = .ok (.newarray .int, 2) := by decide +kernel
theorem d_WO_init_21 : decode prog_12_method_1_code 21 = .ok (.putfield 16, 3) := by decide +kernel
theorem d_WO_init_24 : decode prog_12_method_1_code 24 = .ok (.aload_n 0, 1) := by decide +kernel
theorem d_WO_init_25 : decode prog_12_method_1_code 25 = .ok (.bipush 24, 2) := by decide +kernel
theorem d_WO_init_27 : decode prog_12_method_1_code 27 = .ok (.newarray .int, 2) := by decide +kernel
theorem d_WO_init_29 : decode prog_12_method_1_code 29 = .ok (.putfield 20, 3) := by decide +kernel
theorem d_WO_init_32 : decode prog_12_method_1_code 32 = .ok (.aload_n 0, 1) := by decide +kernel
theorem d_WO_init_33 : decode prog_12_method_1_code 33 = .ok (.bipush 24, 2) := by decide +kernel
theorem d_WO_init_35 : decode prog_12_method_1_code 35 = .ok (.newarray .int, 2) := by decide +kernel
theorem d_WO_init_37 : decode prog_12_method_1_code 37 = .ok (.putfield 23, 3) := by decide +kernel
theorem d_WO_init_40 : decode prog_12_method_1_code 40 = .ok (.aload_n 0, 1) := by decide +kernel
theorem d_WO_init_41 : decode prog_12_method_1_code 41 = .ok (.iconst (-1), 1) := by decide +kernel
theorem d_WO_init_42 : decode prog_12_method_1_code 42 = .ok (.putfield 26, 3) := by decide +kernel
theorem d_WO_init_45 : decode prog_12_method_1_code 45 = .ok (.return_, 1) := by decide +kernel
set_option maxRecDepth 100000 in
set_option maxHeartbeats 4000000 in
theorem i_WO_68 (l : Launch) (D : va_G) (g : ClassId × ClassId × ClassId) (h0 sz : Nat) : cS l D g ⟨"OutOrder$Work", "<init>", "()V"⟩ prog_12_method_1_code 1 14 28 672 68 [68, 69, 70, 71, 72, 73, 74, 75, 76, 77, 78, 79, 80, 81, 82, 83, 84, 85, 86, 87, 88, 89, 90, 91, 92, 93, 94, 95, 96] h0 sz := by
  unfold cS
  refine cS_of (own := "OutOrder$Work") (by decide +kernel) rfl rfl (fun Z _ _ C => ?_)
  show cJ Z D g (cA h0 sz) 0 0 (cQ Z D g 68 [68, 69, 70, 71, 72, 73, 74, 75, 76, 77, 78, 79, 80, 81, 82, 83, 84, 85, 86, 87, 88, 89, 90, 91, 92, 93, 94, 95, 96] h0 sz 28 672) 0 68 h0 [] [] id [] []
  refine c_aload C d_WO_init_0 ?_
  refine c_obj C iw_240 iw_23 iw_obj (by decide) (Nat.le_of_ble_eq_true rfl) d_WO_init_1 ?_
  refine c_aload C d_WO_init_4 ?_
  refine c_bipush C d_WO_init_5 ib_24 ?_
  refine c_bipush C d_WO_init_7 ib_24 ?_
  refine c_multi C (i := 69) (n := 24) (k := 24) (by decide) (by decide) (by decide) (by decide) (by decide) (by decide) (by decide +kernel) (by decide +kernel) (fun j => jw_at_69 j) (by decide +kernel) (fun j hj => jI0_row_69 j hj) (by decide +kernel) (by unfold jclo; decide +kernel) (by decide +kernel) iw_241 (by decide) (by decide) d_WO_init_9 (fun ad1 ea1 => ?_)
  refine c_putR C jcl_WO (by decide +kernel) (k := 0) (by decide) rfl (by decide +kernel) rfl rfl w_242 (fun _ => rfl) (fun _ => rfl) d_WO_init_13 ?_
  refine c_aload C d_WO_init_16 ?_
  refine c_bipush C d_WO_init_17 ib_24 ?_
  refine c_newA C (i := 94) (n := 24) (ty := .int) (gc := g.1) (t0 := 0) rfl rfl (fun _ => rfl) (fun _ => by rw [jcell_int (by decide +kernel), show jl 94 = 24 by decide +kernel, show jI0 94 = fun _ => 0 from rfl]) rfl (by decide) (by decide) (by decide) (by decide) (by unfold jclo; decide +kernel) (by decide +kernel) iw_81 (by decide) (by decide) d_WO_init_19 (fun ad2 ea2 => ?_)
  refine c_putR C jcl_WO (by decide +kernel) (k := 1) (by decide) rfl (by decide +kernel) rfl rfl w_243 (fun _ => rfl) (fun _ => rfl) d_WO_init_21 ?_
  refine c_aload C d_WO_init_24 ?_
  refine c_bipush C d_WO_init_25 ib_24 ?_
  refine c_newA C (i := 95) (n := 24) (ty := .int) (gc := g.1) (t0 := 0) rfl rfl (fun _ => rfl) (fun _ => by rw [jcell_int (by decide +kernel), show jl 95 = 24 by decide +kernel, show jI0 95 = fun _ => 0 from rfl]) rfl (by decide) (by decide) (by decide) (by decide) (by unfold jclo; decide +kernel) (by decide +kernel) iw_81 (by decide) (by decide) d_WO_init_27 (fun ad3 ea3 => ?_)
  refine c_putR C jcl_WO (by decide +kernel) (k := 2) (by decide) rfl (by decide +kernel) rfl rfl w_245 (fun _ => rfl) (fun _ => rfl) d_WO_init_29 ?_
  refine c_aload C d_WO_init_32 ?_
  refine c_bipush C d_WO_init_33 ib_24 ?_
  refine c_newA C (i := 96) (n := 24) (ty := .int) (gc := g.1) (t0 := 0) rfl rfl (fun _ => rfl) (fun _ => by rw [jcell_int (by decide +kernel), show jl 96 = 24 by decide +kernel, show jI0 96 = fun _ => 0 from rfl]) rfl (by decide) (by decide) (by decide) (by decide) (by unfold jclo; decide +kernel) (by decide +kernel) iw_81 (by decide) (by decide) d_WO_init_35 (fun ad4 ea4 => ?_)
  refine c_putR C jcl_WO (by decide +kernel) (k := 3) (by decide) rfl (by decide +kernel) rfl rfl w_246 (fun _ => rfl) (fun _ => rfl) d_WO_init_37 ?_
  refine c_aload C d_WO_init_40 ?_
  refine c_iconst C d_WO_init_41 ic_m1 ?_
  refine c_putI C (v := (-1 : Int32)) jcl_WO (by decide +kernel) (k := 5) (by decide) rfl (by decide +kernel) rfl rfl w_250 rfl rfl d_WO_init_42 ?_
  exact c_ret C (by decide +kernel) (by decide +kernel) (by decide +kernel) (by unfold jclo; decide +kernel) (by decide +kernel) (by decide +kernel) d_WO_init_45
theorem d_PL_init_0 : decode prog_7_method_1_code 0 = .ok (.aload_n 0, 1) := by decide +kernel
theorem d_PL_init_1 : decode prog_7_method_1_code 1 = .ok (.invokespecial 3, 3) := by decide +kernel
theorem d_PL_init_4 : decode prog_7_method_1_code 4 = .ok (.aload_n 0, 1) := by decide +kernel
theorem d_PL_init_5 : decode prog_7_method_1_code 5 = .ok (.bipush 24, 2) := by decide +kernel
theorem d_PL_init_7 : decode prog_7_method_1_code 7 = .ok (.newarray .int, 2) := by decide +kernel
theorem d_PL_init_9 : decode prog_7_method_1_code 9 = .ok (.putfield 9, 3) := by decide +kernel
theorem d_PL_init_12 : decode prog_7_method_1_code 12 = .ok (.return_, 1) := by decide +kernel
set_option maxRecDepth 100000 in
set_option maxHeartbeats 4000000 in
theorem i_PL_97 (l : Launch) (D : va_G) (g : ClassId × ClassId × ClassId) (h0 sz : Nat) : cS l D g ⟨"OutOrder$Plan", "<init>", "()V"⟩ prog_7_method_1_code 1 14 1 24 97 [97, 98] h0 sz := by
  unfold cS
  refine cS_of (own := "OutOrder$Plan") (by decide +kernel) rfl rfl (fun Z _ _ C => ?_)
  show cJ Z D g (cA h0 sz) 0 0 (cQ Z D g 97 [97, 98] h0 sz 1 24) 0 97 h0 [] [] id [] []
  refine c_aload C d_PL_init_0 ?_
  refine c_obj C iw_270 iw_23 iw_obj (by decide) (Nat.le_of_ble_eq_true rfl) d_PL_init_1 ?_
  refine c_aload C d_PL_init_4 ?_
  refine c_bipush C d_PL_init_5 ib_24 ?_
  refine c_newA C (i := 98) (n := 24) (ty := .int) (gc := g.1) (t0 := 0) rfl rfl (fun _ => rfl) (fun _ => by rw [jcell_int (by decide +kernel), show jl 98 = 24 by decide +kernel, show jI0 98 = fun _ => 0 from rfl]) rfl (by decide) (by decide) (by decide) (by decide) (by unfold jclo; decide +kernel) (by decide +kernel) iw_81 (by decide) (by decide) d_PL_init_7 (fun ad1 ea1 => ?_)
  refine c_putR C jcl_PL (by decide +kernel) (k := 0) (by decide) rfl (by decide +kernel) rfl rfl w_271 (fun _ => rfl) (fun _ => rfl) d_PL_init_9 ?_
  exact c_ret C (by decide +kernel) (by decide +kernel) (by decide +kernel) (by unfold jclo; decide +kernel) (by decide +kernel) (by decide +kernel) d_PL_init_12
/-- OutOrder(): the cells of the layout; what startAnew makes of the fresh memory -/
def cSX (l : Launch) (D : va_G) (g : ClassId × ClassId × ClassId) (h0 sz : Nat) (K : jM → Prop) : Prop :=
  Met l ⟨"OutOrder", "<init>", "()V"⟩ (.code ⟨"OutOrder", "<init>", "()V"⟩ prog_1_method_1_code 1 none :: jtbl) ({ frames := 4, cells := 99, slots := 10335, locals := 85 } : Room) (va_Pc [.ref h0] (fun U => U.heap.size = sz ∧ va_at D jCl (h0, .inr (jk 0, jfp id 0 [])) U.heap ∧ cK D g U)) (va_Qv (fun u : (Nat → Nat) × jM => u.1 0 = h0 ∧ K u.2) (fun u t => mP D (jworld (D, g, u.1, jLX) u.2) t.heap ∧ mD (cA h0 sz) (jworld (D, g, u.1, jLX) u.2)) (cA h0 sz)) 99 10335 (cA h0 sz)
set_option maxRecDepth 100000 in
set_option maxHeartbeats 4000000 in
theorem i_OO_0 (l : Launch) (D : va_G) (g : ClassId × ClassId × ClassId) (h0 sz : Nat) (K : jM → Prop) (hK : OO_startAnew 0 1 32749 jI0 K) : cSX l D g h0 sz K := by
  unfold cSX
  refine cS_of (own := "OutOrder") (by decide +kernel) rfl rfl (fun Z _ _ C => ?_)
  refine c_aload C d_OO_init_0 ?_
  refine c_obj C iw_22 iw_23 iw_obj (by decide) (Nat.le_of_ble_eq_true rfl) d_OO_init_1 ?_
  refine c_aload C d_OO_init_4 ?_
  refine c_child C (i := 1) (Lc := [1, 2, 3, 4, 5, 6, 7, 8, 9, 10, 11, 12, 13, 14, 15, 16, 17, 18, 19, 20, 21, 22, 23, 24, 25, 26, 27, 28, 29]) (f := 2) (L := 34) (mc2 := 28) (ms2 := 649) (y := ⟨"OutOrder$Table", "<init>", "()V"⟩) (bytes := prog_11_method_1_code) jcl_TA (by decide +kernel) iw_25 iw_26 w_2 (by decide +kernel) (List.mem_of_getElem? (i := 0) rfl) iw_28 iw_29 rfl rfl (by decide +kernel) (by decide) (by decide) (Nat.le_of_ble_eq_true rfl) (by decide) (by decide) (by unfold jclo; decide +kernel) (by unfold jclo; decide +kernel) (by decide +kernel) (by decide +kernel) (by decide +kernel) (fun q sz => i_TA_1 (jZl Z) D g q sz) d_OO_init_5 d_OO_init_8 d_OO_init_9 (fun ad1 ea1 => ?_)
  refine c_putR C jcl_OO (by decide +kernel) (k := 0) (by decide) rfl (by decide +kernel) rfl rfl w_312 (fun _ => rfl) (fun _ => rfl) d_OO_init_12 ?_
  refine c_aload C d_OO_init_15 ?_
  refine c_child C (i := 30) (Lc := [30, 31, 32]) (f := 1) (L := 14) (mc2 := 2) (ms2 := 48) (y := ⟨"OutOrder$Row", "<init>", "()V"⟩) (bytes := prog_9_method_1_code) jcl_RO (by decide +kernel) iw_82 iw_83 w_4 (by decide +kernel) (List.mem_of_getElem? (i := 2) rfl) iw_85 iw_86 rfl rfl (by decide +kernel) (by decide) (by decide) (Nat.le_of_ble_eq_true rfl) (by decide) (by decide) (by unfold jclo; decide +kernel) (by unfold jclo; decide +kernel) (by decide +kernel) (by decide +kernel) (by decide +kernel) (fun q sz => i_RO_30 (jZl Z) D g q sz) d_OO_init_16 d_OO_init_19 d_OO_init_20 (fun ad2 ea2 => ?_)
  refine c_putR C jcl_OO (by decide +kernel) (k := 1) (by decide) rfl (by decide +kernel) rfl rfl w_313 (fun _ => rfl) (fun _ => rfl) d_OO_init_23 ?_
  refine c_aload C d_OO_init_26 ?_
  refine c_child C (i := 33) (Lc := [33, 34, 35]) (f := 2) (L := 34) (mc2 := 2) (ms2 := 27) (y := ⟨"OutOrder$Rules", "<init>", "()V"⟩) (bytes := prog_10_method_1_code) jcl_RU (by decide +kernel) iw_105 iw_106 w_5 (by decide +kernel) (List.mem_of_getElem? (i := 3) rfl) iw_108 iw_109 rfl rfl (by decide +kernel) (by decide) (by decide) (Nat.le_of_ble_eq_true rfl) (by decide) (by decide) (by unfold jclo; decide +kernel) (by unfold jclo; decide +kernel) (by decide +kernel) (by decide +kernel) (by decide +kernel) (fun q sz => i_RU_33 (jZl Z) D g q sz) d_OO_init_27 d_OO_init_30 d_OO_init_31 (fun ad3 ea3 => ?_)
  refine c_putR C jcl_OO (by decide +kernel) (k := 2) (by decide) rfl (by decide +kernel) rfl rfl w_314 (fun _ => rfl) (fun _ => rfl) d_OO_init_34 ?_
  refine c_aload C d_OO_init_37 ?_
  refine c_child C (i := 36) (Lc := [36, 37, 38, 39, 40, 41, 42, 43, 44, 45, 46, 47, 48, 49, 50, 51, 52, 53, 54]) (f := 2) (L := 34) (mc2 := 18) (ms2 := 8388) (y := ⟨"OutOrder$Least", "<init>", "()V"⟩) (bytes := prog_4_method_1_code) jcl_LE (by decide +kernel) iw_141 iw_142 w_7 (by decide +kernel) (List.mem_of_getElem? (i := 5) rfl) iw_144 iw_145 rfl rfl (by decide +kernel) (by decide) (by decide) (Nat.le_of_ble_eq_true rfl) (by decide) (by decide) (by unfold jclo; decide +kernel) (by unfold jclo; decide +kernel) (by decide +kernel) (by decide +kernel) (by decide +kernel) (fun q sz => i_LE_36 (jZl Z) D g q sz) d_OO_init_38 d_OO_init_41 d_OO_init_42 (fun ad4 ea4 => ?_)
  refine c_putR C jcl_OO (by decide +kernel) (k := 3) (by decide) rfl (by decide +kernel) rfl rfl w_315 (fun _ => rfl) (fun _ => rfl) d_OO_init_45 ?_
  refine c_aload C d_OO_init_48 ?_
  refine c_child C (i := 55) (Lc := [55, 56, 57, 58, 59, 60, 61, 62, 63]) (f := 2) (L := 34) (mc2 := 8) (ms2 := 435) (y := ⟨"OutOrder$FullNet", "<init>", "()V"⟩) (bytes := prog_2_method_1_code) jcl_FN (by decide +kernel) iw_165 iw_166 w_8 (by decide +kernel) (List.mem_of_getElem? (i := 7) rfl) iw_168 iw_169 rfl rfl (by decide +kernel) (by decide) (by decide) (Nat.le_of_ble_eq_true rfl) (by decide) (by decide) (by unfold jclo; decide +kernel) (by unfold jclo; decide +kernel) (by decide +kernel) (by decide +kernel) (by decide +kernel) (fun q sz => i_FN_55 (jZl Z) D g q sz) d_OO_init_49 d_OO_init_52 d_OO_init_53 (fun ad5 ea5 => ?_)
  refine c_putR C jcl_OO (by decide +kernel) (k := 4) (by decide) rfl (by decide +kernel) rfl rfl w_316 (fun _ => rfl) (fun _ => rfl) d_OO_init_56 ?_
  refine c_aload C d_OO_init_59 ?_
  refine c_child C (i := 64) (Lc := [64, 65, 66, 67]) (f := 2) (L := 34) (mc2 := 3) (ms2 := 51) (y := ⟨"OutOrder$Going", "<init>", "()V"⟩) (bytes := prog_3_method_1_code) jcl_GO (by decide +kernel) iw_215 iw_216 w_9 (by decide +kernel) (List.mem_of_getElem? (i := 9) rfl) iw_218 iw_219 rfl rfl (by decide +kernel) (by decide) (by decide) (Nat.le_of_ble_eq_true rfl) (by decide) (by decide) (by unfold jclo; decide +kernel) (by unfold jclo; decide +kernel) (by decide +kernel) (by decide +kernel) (by decide +kernel) (fun q sz => i_GO_64 (jZl Z) D g q sz) d_OO_init_60 d_OO_init_63 d_OO_init_64 (fun ad6 ea6 => ?_)
  refine c_putR C jcl_OO (by decide +kernel) (k := 5) (by decide) rfl (by decide +kernel) rfl rfl w_317 (fun _ => rfl) (fun _ => rfl) d_OO_init_67 ?_
  refine c_aload C d_OO_init_70 ?_
  refine c_child C (i := 68) (Lc := [68, 69, 70, 71, 72, 73, 74, 75, 76, 77, 78, 79, 80, 81, 82, 83, 84, 85, 86, 87, 88, 89, 90, 91, 92, 93, 94, 95, 96]) (f := 1) (L := 14) (mc2 := 28) (ms2 := 672) (y := ⟨"OutOrder$Work", "<init>", "()V"⟩) (bytes := prog_12_method_1_code) jcl_WO (by decide +kernel) iw_235 iw_236 w_10 (by decide +kernel) (List.mem_of_getElem? (i := 11) rfl) iw_238 iw_239 rfl rfl (by decide +kernel) (by decide) (by decide) (Nat.le_of_ble_eq_true rfl) (by decide) (by decide) (by unfold jclo; decide +kernel) (by unfold jclo; decide +kernel) (by decide +kernel) (by decide +kernel) (by decide +kernel) (fun q sz => i_WO_68 (jZl Z) D g q sz) d_OO_init_71 d_OO_init_74 d_OO_init_75 (fun ad7 ea7 => ?_)
  refine c_putR C jcl_OO (by decide +kernel) (k := 6) (by decide) rfl (by decide +kernel) rfl rfl w_318 (fun _ => rfl) (fun _ => rfl) d_OO_init_78 ?_
  refine c_aload C d_OO_init_81 ?_
  refine c_child C (i := 97) (Lc := [97, 98]) (f := 1) (L := 14) (mc2 := 1) (ms2 := 24) (y := ⟨"OutOrder$Plan", "<init>", "()V"⟩) (bytes := prog_7_method_1_code) jcl_PL (by decide +kernel) iw_265 iw_266 w_11 (by decide +kernel) (List.mem_of_getElem? (i := 12) rfl) iw_268 iw_269 rfl rfl (by decide +kernel) (by decide) (by decide) (Nat.le_of_ble_eq_true rfl) (by decide) (by decide) (by unfold jclo; decide +kernel) (by unfold jclo; decide +kernel) (by decide +kernel) (by decide +kernel) (by decide +kernel) (fun q sz => i_PL_97 (jZl Z) D g q sz) d_OO_init_82 d_OO_init_85 d_OO_init_86 (fun ad8 ea8 => ?_)
  refine c_putR C jcl_OO (by decide +kernel) (k := 7) (by decide) rfl (by decide +kernel) rfl rfl w_319 (fun _ => rfl) (fun _ => rfl) d_OO_init_89 ?_
  refine c_aload C d_OO_init_92 ?_
  refine c_bipush C d_OO_init_93 ib_7 ?_
  refine c_newA C (i := 99) (n := 7) (ty := .int) (gc := g.1) (t0 := 0) rfl rfl (fun _ => rfl) (fun _ => by rw [jcell_int (by decide +kernel), show jl 99 = 7 by decide +kernel, show jI0 99 = fun _ => 0 from rfl]) rfl (by decide) (by decide) (by decide) (by decide) (by unfold jclo; decide +kernel) (by decide +kernel) iw_81 (by decide) (by decide) d_OO_init_95 (fun ad9 ea9 => ?_)
  refine c_putR C jcl_OO (by decide +kernel) (k := 8) (by decide) rfl (by decide +kernel) rfl rfl w_320 (fun _ => rfl) (fun _ => rfl) d_OO_init_97 ?_
  exact c_start C (r := 0) hK (by decide) (by decide) (by decide) (by decide) d_OO_init_100 d_OO_init_101 d_OO_init_102 d_OO_init_105 d_OO_init_108
theorem d_MD_init_0 : decode prog_14_method_1_code 0 = .ok (.aload_n 0, 1) := by decide +kernel
theorem d_MD_init_1 : decode prog_14_method_1_code 1 = .ok (.invokespecial 1, 3) := by decide +kernel
theorem d_MD_init_4 : decode prog_14_method_1_code 4 = .ok (.aload_n 0, 1) := by decide +kernel
theorem d_MD_init_5 : decode prog_14_method_1_code 5 = .ok (.iconst 1, 1) := by decide +kernel
theorem d_MD_init_6 : decode prog_14_method_1_code 6 = .ok (.putfield 7, 3) := by decide +kernel
theorem d_MD_init_9 : decode prog_14_method_1_code 9 = .ok (.aload_n 0, 1) := by decide +kernel
theorem d_MD_init_10 : decode prog_14_method_1_code 10 = .ok (.sipush 32749, 3) := by decide +kernel
theorem d_MD_init_13 : decode prog_14_method_1_code 13 = .ok (.putfield 13, 3) := by decide +kernel
theorem d_MD_init_16 : decode prog_14_method_1_code 16 = .ok (.aload_n 0, 1) := by decide +kernel
theorem d_MD_init_17 : decode prog_14_method_1_code 17 = .ok (.sipush 576, 3) := by decide +kernel
theorem d_MD_init_20 : decode prog_14_method_1_code 20 = .ok (.newarray .int, 2) := by decide +kernel
theorem d_MD_init_22 : decode prog_14_method_1_code 22 = .ok (.putfield 16, 3) := by decide +kernel
theorem d_MD_init_25 : decode prog_14_method_1_code 25 = .ok (.aload_n 0, 1) := by decide +kernel
theorem d_MD_init_26 : decode prog_14_method_1_code 26 = .ok (.bipush 24, 2) := by decide +kernel
theorem d_MD_init_28 : decode prog_14_method_1_code 28 = .ok (.newarray .boolean, 2) := by decide +kernel
theorem d_MD_init_30 : decode prog_14_method_1_code 30 = .ok (.putfield 20, 3) := by decide +kernel
theorem d_MD_init_33 : decode prog_14_method_1_code 33 = .ok (.aload_n 0, 1) := by decide +kernel
theorem d_MD_init_34 : decode prog_14_method_1_code 34 = .ok (.bipush 24, 2) := by decide +kernel
theorem d_MD_init_36 : decode prog_14_method_1_code 36 = .ok (.newarray .int, 2) := by decide +kernel
theorem d_MD_init_38 : decode prog_14_method_1_code 38 = .ok (.putfield 24, 3) := by decide +kernel
theorem d_MD_init_41 : decode prog_14_method_1_code 41 = .ok (.aload_n 0, 1) := by decide +kernel
theorem d_MD_init_42 : decode prog_14_method_1_code 42 = .ok (.bipush 24, 2) := by decide +kernel
theorem d_MD_init_44 : decode prog_14_method_1_code 44 = .ok (.newarray .int, 2) := by decide +kernel
theorem d_MD_init_46 : decode prog_14_method_1_code 46 = .ok (.putfield 27, 3) := by decide +kernel
theorem d_MD_init_49 : decode prog_14_method_1_code 49 = .ok (.aload_n 0, 1) := by decide +kernel
theorem d_MD_init_50 : decode prog_14_method_1_code 50 = .ok (.bipush 7, 2) := by decide +kernel
theorem d_MD_init_52 : decode prog_14_method_1_code 52 = .ok (.newarray .int, 2) := by decide +kernel
theorem d_MD_init_54 : decode prog_14_method_1_code 54 = .ok (.putfield 30, 3) := by decide +kernel
theorem d_MD_init_57 : decode prog_14_method_1_code 57 = .ok (.aload_n 0, 1) := by decide +kernel
theorem d_MD_init_58 : decode prog_14_method_1_code 58 = .ok (.bipush 24, 2) := by decide +kernel
theorem d_MD_init_60 : decode prog_14_method_1_code 60 = .ok (.newarray .int, 2) := by decide +kernel
theorem d_MD_init_62 : decode prog_14_method_1_code 62 = .ok (.putfield 33, 3) := by decide +kernel
theorem d_MD_init_65 : decode prog_14_method_1_code 65 = .ok (.aload_n 0, 1) := by decide +kernel
theorem d_MD_init_66 : decode prog_14_method_1_code 66 = .ok (.bipush 24, 2) := by decide +kernel
theorem d_MD_init_68 : decode prog_14_method_1_code 68 = .ok (.newarray .int, 2) := by decide +kernel
theorem d_MD_init_70 : decode prog_14_method_1_code 70 = .ok (.putfield 36, 3) := by decide +kernel
theorem d_MD_init_73 : decode prog_14_method_1_code 73 = .ok (.aload_n 0, 1) := by decide +kernel
theorem d_MD_init_74 : decode prog_14_method_1_code 74 = .ok (.sipush 300, 3) := by decide +kernel
theorem d_MD_init_77 : decode prog_14_method_1_code 77 = .ok (.newarray .int, 2) := by decide +kernel
theorem d_MD_init_79 : decode prog_14_method_1_code 79 = .ok (.putfield 39, 3) := by decide +kernel
theorem d_MD_init_82 : decode prog_14_method_1_code 82 = .ok (.aload_n 0, 1) := by decide +kernel
theorem d_MD_init_83 : decode prog_14_method_1_code 83 = .ok (.bipush 24, 2) := by decide +kernel
theorem d_MD_init_85 : decode prog_14_method_1_code 85 = .ok (.newarray .int, 2) := by decide +kernel
theorem d_MD_init_87 : decode prog_14_method_1_code 87 = .ok (.putfield 42, 3) := by decide +kernel
theorem d_MD_init_90 : decode prog_14_method_1_code 90 = .ok (.aload_n 0, 1) := by decide +kernel
theorem d_MD_init_91 : decode prog_14_method_1_code 91 = .ok (.sipush 4096, 3) := by decide +kernel
theorem d_MD_init_94 : decode prog_14_method_1_code 94 = .ok (.newarray .int, 2) := by decide +kernel
theorem d_MD_init_96 : decode prog_14_method_1_code 96 = .ok (.putfield 45, 3) := by decide +kernel
theorem d_MD_init_99 : decode prog_14_method_1_code 99 = .ok (.aload_n 0, 1) := by decide +kernel
theorem d_MD_init_100 : decode prog_14_method_1_code 100 = .ok (.iconst (-1), 1) := by decide +kernel
theorem d_MD_init_101 : decode prog_14_method_1_code 101 = .ok (.putfield 48, 3) := by decide +kernel
theorem d_MD_init_104 : decode prog_14_method_1_code 104 = .ok (.aload_n 0, 1) := by decide +kernel
theorem d_MD_init_105 : decode prog_14_method_1_code 105 = .ok (.bipush 24, 2) := by decide +kernel
theorem d_MD_init_107 : decode prog_14_method_1_code 107 = .ok (.newarray .int, 2) := by decide +kernel
theorem d_MD_init_109 : decode prog_14_method_1_code 109 = .ok (.putfield 51, 3) := by decide +kernel
theorem d_MD_init_112 : decode prog_14_method_1_code 112 = .ok (.aload_n 0, 1) := by decide +kernel
theorem d_MD_init_113 : decode prog_14_method_1_code 113 = .ok (.sipush 600, 3) := by decide +kernel
theorem d_MD_init_116 : decode prog_14_method_1_code 116 = .ok (.newarray .int, 2) := by decide +kernel
theorem d_MD_init_118 : decode prog_14_method_1_code 118 = .ok (.putfield 54, 3) := by decide +kernel
theorem d_MD_init_121 : decode prog_14_method_1_code 121 = .ok (.aload_n 0, 1) := by decide +kernel
theorem d_MD_init_122 : decode prog_14_method_1_code 122 = .ok (.bipush 24, 2) := by decide +kernel
theorem d_MD_init_124 : decode prog_14_method_1_code 124 = .ok (.newarray .int, 2) := by decide +kernel
theorem d_MD_init_126 : decode prog_14_method_1_code 126 = .ok (.putfield 57, 3) := by decide +kernel
theorem d_MD_init_129 : decode prog_14_method_1_code 129 = .ok (.aload_n 0, 1) := by decide +kernel
theorem d_MD_init_130 : decode prog_14_method_1_code 130 = .ok (.bipush (-9), 2) := by decide +kernel
theorem d_MD_init_132 : decode prog_14_method_1_code 132 = .ok (.putfield 60, 3) := by decide +kernel
theorem d_MD_init_135 : decode prog_14_method_1_code 135 = .ok (.aload_n 0, 1) := by decide +kernel
theorem d_MD_init_136 : decode prog_14_method_1_code 136 = .ok (.bipush 24, 2) := by decide +kernel
theorem d_MD_init_138 : decode prog_14_method_1_code 138 = .ok (.newarray .int, 2) := by decide +kernel
theorem d_MD_init_140 : decode prog_14_method_1_code 140 = .ok (.putfield 63, 3) := by decide +kernel
theorem d_MD_init_143 : decode prog_14_method_1_code 143 = .ok (.aload_n 0, 1) := by decide +kernel
theorem d_MD_init_144 : decode prog_14_method_1_code 144 = .ok (.sipush 576, 3) := by decide +kernel
theorem d_MD_init_147 : decode prog_14_method_1_code 147 = .ok (.newarray .int, 2) := by decide +kernel
theorem d_MD_init_149 : decode prog_14_method_1_code 149 = .ok (.putfield 66, 3) := by decide +kernel
theorem d_MD_init_152 : decode prog_14_method_1_code 152 = .ok (.aload_n 0, 1) := by decide +kernel
theorem d_MD_init_153 : decode prog_14_method_1_code 153 = .ok (.bipush 24, 2) := by decide +kernel
theorem d_MD_init_155 : decode prog_14_method_1_code 155 = .ok (.newarray .int, 2) := by decide +kernel
theorem d_MD_init_157 : decode prog_14_method_1_code 157 = .ok (.putfield 69, 3) := by decide +kernel
theorem d_MD_init_160 : decode prog_14_method_1_code 160 = .ok (.aload_n 0, 1) := by decide +kernel
theorem d_MD_init_161 : decode prog_14_method_1_code 161 = .ok (.bipush 24, 2) := by decide +kernel
theorem d_MD_init_163 : decode prog_14_method_1_code 163 = .ok (.newarray .int, 2) := by decide +kernel
theorem d_MD_init_165 : decode prog_14_method_1_code 165 = .ok (.putfield 72, 3) := by decide +kernel
theorem d_MD_init_168 : decode prog_14_method_1_code 168 = .ok (.return_, 1) := by decide +kernel
set_option maxRecDepth 100000 in
set_option maxHeartbeats 4000000 in
theorem i_MD_100 (l : Launch) (D : va_G) (g : ClassId × ClassId × ClassId) (h0 sz : Nat) : cS l D g ⟨"OutOrderModel", "<init>", "()V"⟩ prog_14_method_1_code 1 14 17 6419 100 [100, 101, 102, 103, 104, 105, 106, 107, 108, 109, 110, 111, 112, 113, 114, 115, 116, 117] h0 sz := by
  unfold cS
  refine cS_of (own := "OutOrderModel") (by decide +kernel) rfl rfl (fun Z _ _ C => ?_)
  show cJ Z D g (cA h0 sz) 0 0 (cQ Z D g 100 [100, 101, 102, 103, 104, 105, 106, 107, 108, 109, 110, 111, 112, 113, 114, 115, 116, 117] h0 sz 17 6419) 0 100 h0 [] [] id [] []
  refine c_aload C d_MD_init_0 ?_
  refine c_obj C iw_728 iw_23 iw_obj (by decide) (Nat.le_of_ble_eq_true rfl) d_MD_init_1 ?_
  refine c_aload C d_MD_init_4 ?_
  refine c_iconst C d_MD_init_5 ic_1 ?_
  refine c_putI C (v := (1 : Int32)) jcl_MD (by decide +kernel) (k := 0) (by decide) rfl (by decide +kernel) rfl rfl w_729 rfl rfl d_MD_init_6 ?_
  refine c_aload C d_MD_init_9 ?_
  refine c_sipush C d_MD_init_10 is_32749 ?_
  refine c_putI C (v := (32749 : Int32)) jcl_MD (by decide +kernel) (k := 1) (by decide) rfl (by decide +kernel) rfl rfl w_730 rfl rfl d_MD_init_13 ?_
  refine c_aload C d_MD_init_16 ?_
  refine c_sipush C d_MD_init_17 is_576 ?_
  refine c_newA C (i := 101) (n := 576) (ty := .int) (gc := g.1) (t0 := 0) rfl rfl (fun _ => rfl) (fun _ => by rw [jcell_int (by decide +kernel), show jl 101 = 576 by decide +kernel, show jI0 101 = fun _ => 0 from rfl]) rfl (by decide) (by decide) (by decide) (by decide) (by unfold jclo; decide +kernel) (by decide +kernel) iw_81 (by decide) (by decide) d_MD_init_20 (fun ad1 ea1 => ?_)
  refine c_putR C jcl_MD (by decide +kernel) (k := 2) (by decide) rfl (by decide +kernel) rfl rfl w_731 (fun _ => rfl) (fun _ => rfl) d_MD_init_22 ?_
  refine c_aload C d_MD_init_25 ?_
  refine c_bipush C d_MD_init_26 ib_24 ?_
  refine c_newA C (i := 102) (n := 24) (ty := .boolean) (gc := g.2.1) (t0 := 1) rfl rfl (fun _ => rfl) (fun _ => by rw [jcell_boo (by decide +kernel), show jl 102 = 24 by decide +kernel, show jI0 102 = fun _ => 0 from rfl]) rfl (by decide) (by decide) (by decide) (by decide) (by unfold jclo; decide +kernel) (by decide +kernel) iw_802 (by decide) (by decide) d_MD_init_28 (fun ad2 ea2 => ?_)
  refine c_putR C jcl_MD (by decide +kernel) (k := 3) (by decide) rfl (by decide +kernel) rfl rfl w_732 (fun _ => rfl) (fun _ => rfl) d_MD_init_30 ?_
  refine c_aload C d_MD_init_33 ?_
  refine c_bipush C d_MD_init_34 ib_24 ?_
  refine c_newA C (i := 103) (n := 24) (ty := .int) (gc := g.1) (t0 := 0) rfl rfl (fun _ => rfl) (fun _ => by rw [jcell_int (by decide +kernel), show jl 103 = 24 by decide +kernel, show jI0 103 = fun _ => 0 from rfl]) rfl (by decide) (by decide) (by decide) (by decide) (by unfold jclo; decide +kernel) (by decide +kernel) iw_81 (by decide) (by decide) d_MD_init_36 (fun ad3 ea3 => ?_)
  refine c_putR C jcl_MD (by decide +kernel) (k := 4) (by decide) rfl (by decide +kernel) rfl rfl w_733 (fun _ => rfl) (fun _ => rfl) d_MD_init_38 ?_
  refine c_aload C d_MD_init_41 ?_
  refine c_bipush C d_MD_init_42 ib_24 ?_
  refine c_newA C (i := 104) (n := 24) (ty := .int) (gc := g.1) (t0 := 0) rfl rfl (fun _ => rfl) (fun _ => by rw [jcell_int (by decide +kernel), show jl 104 = 24 by decide +kernel, show jI0 104 = fun _ => 0 from rfl]) rfl (by decide) (by decide) (by decide) (by decide) (by unfold jclo; decide +kernel) (by decide +kernel) iw_81 (by decide) (by decide) d_MD_init_44 (fun ad4 ea4 => ?_)
  refine c_putR C jcl_MD (by decide +kernel) (k := 5) (by decide) rfl (by decide +kernel) rfl rfl w_734 (fun _ => rfl) (fun _ => rfl) d_MD_init_46 ?_
  refine c_aload C d_MD_init_49 ?_
  refine c_bipush C d_MD_init_50 ib_7 ?_
  refine c_newA C (i := 105) (n := 7) (ty := .int) (gc := g.1) (t0 := 0) rfl rfl (fun _ => rfl) (fun _ => by rw [jcell_int (by decide +kernel), show jl 105 = 7 by decide +kernel, show jI0 105 = fun _ => 0 from rfl]) rfl (by decide) (by decide) (by decide) (by decide) (by unfold jclo; decide +kernel) (by decide +kernel) iw_81 (by decide) (by decide) d_MD_init_52 (fun ad5 ea5 => ?_)
  refine c_putR C jcl_MD (by decide +kernel) (k := 6) (by decide) rfl (by decide +kernel) rfl rfl w_735 (fun _ => rfl) (fun _ => rfl) d_MD_init_54 ?_
  refine c_aload C d_MD_init_57 ?_
  refine c_bipush C d_MD_init_58 ib_24 ?_
  refine c_newA C (i := 106) (n := 24) (ty := .int) (gc := g.1) (t0 := 0) rfl rfl (fun _ => rfl) (fun _ => by rw [jcell_int (by decide +kernel), show jl 106 = 24 by decide +kernel, show jI0 106 = fun _ => 0 from rfl]) rfl (by decide) (by decide) (by decide) (by decide) (by unfold jclo; decide +kernel) (by decide +kernel) iw_81 (by decide) (by decide) d_MD_init_60 (fun ad6 ea6 => ?_)
  refine c_putR C jcl_MD (by decide +kernel) (k := 7) (by decide) rfl (by decide +kernel) rfl rfl w_736 (fun _ => rfl) (fun _ => rfl) d_MD_init_62 ?_
  refine c_aload C d_MD_init_65 ?_
  refine c_bipush C d_MD_init_66 ib_24 ?_
  refine c_newA C (i := 107) (n := 24) (ty := .int) (gc := g.1) (t0 := 0) rfl rfl (fun _ => rfl) (fun _ => by rw [jcell_int (by decide +kernel), show jl 107 = 24 by decide +kernel, show jI0 107 = fun _ => 0 from rfl]) rfl (by decide) (by decide) (by decide) (by decide) (by unfold jclo; decide +kernel) (by decide +kernel) iw_81 (by decide) (by decide) d_MD_init_68 (fun ad7 ea7 => ?_)
  refine c_putR C jcl_MD (by decide +kernel) (k := 8) (by decide) rfl (by decide +kernel) rfl rfl w_737 (fun _ => rfl) (fun _ => rfl) d_MD_init_70 ?_
  refine c_aload C d_MD_init_73 ?_
  refine c_sipush C d_MD_init_74 is_300 ?_
  refine c_newA C (i := 108) (n := 300) (ty := .int) (gc := g.1) (t0 := 0) rfl rfl (fun _ => rfl) (fun _ => by rw [jcell_int (by decide +kernel), show jl 108 = 300 by decide +kernel, show jI0 108 = fun _ => 0 from rfl]) rfl (by decide) (by decide) (by decide) (by decide) (by unfold jclo; decide +kernel) (by decide +kernel) iw_81 (by decide) (by decide) d_MD_init_77 (fun ad8 ea8 => ?_)
  refine c_putR C jcl_MD (by decide +kernel) (k := 9) (by decide) rfl (by decide +kernel) rfl rfl w_738 (fun _ => rfl) (fun _ => rfl) d_MD_init_79 ?_
  refine c_aload C d_MD_init_82 ?_
  refine c_bipush C d_MD_init_83 ib_24 ?_
  refine c_newA C (i := 109) (n := 24) (ty := .int) (gc := g.1) (t0 := 0) rfl rfl (fun _ => rfl) (fun _ => by rw [jcell_int (by decide +kernel), show jl 109 = 24 by decide +kernel, show jI0 109 = fun _ => 0 from rfl]) rfl (by decide) (by decide) (by decide) (by decide) (by unfold jclo; decide +kernel) (by decide +kernel) iw_81 (by decide) (by decide) d_MD_init_85 (fun ad9 ea9 => ?_)
  refine c_putR C jcl_MD (by decide +kernel) (k := 11) (by decide) rfl (by decide +kernel) rfl rfl w_740 (fun _ => rfl) (fun _ => rfl) d_MD_init_87 ?_
  refine c_aload C d_MD_init_90 ?_
  refine c_sipush C d_MD_init_91 is_4096 ?_
  refine c_newA C (i := 110) (n := 4096) (ty := .int) (gc := g.1) (t0 := 0) rfl rfl (fun _ => rfl) (fun _ => by rw [jcell_int (by decide +kernel), show jl 110 = 4096 by decide +kernel, show jI0 110 = fun _ => 0 from rfl]) rfl (by decide) (by decide) (by decide) (by decide) (by unfold jclo; decide +kernel) (by decide +kernel) iw_81 (by decide) (by decide) d_MD_init_94 (fun ad10 ea10 => ?_)
  refine c_putR C jcl_MD (by decide +kernel) (k := 12) (by decide) rfl (by decide +kernel) rfl rfl w_741 (fun _ => rfl) (fun _ => rfl) d_MD_init_96 ?_
  refine c_aload C d_MD_init_99 ?_
  refine c_iconst C d_MD_init_100 ic_m1 ?_
  refine c_putI C (v := (-1 : Int32)) jcl_MD (by decide +kernel) (k := 13) (by decide) rfl (by decide +kernel) rfl rfl w_742 rfl rfl d_MD_init_101 ?_
  refine c_aload C d_MD_init_104 ?_
  refine c_bipush C d_MD_init_105 ib_24 ?_
  refine c_newA C (i := 111) (n := 24) (ty := .int) (gc := g.1) (t0 := 0) rfl rfl (fun _ => rfl) (fun _ => by rw [jcell_int (by decide +kernel), show jl 111 = 24 by decide +kernel, show jI0 111 = fun _ => 0 from rfl]) rfl (by decide) (by decide) (by decide) (by decide) (by unfold jclo; decide +kernel) (by decide +kernel) iw_81 (by decide) (by decide) d_MD_init_107 (fun ad11 ea11 => ?_)
  refine c_putR C jcl_MD (by decide +kernel) (k := 14) (by decide) rfl (by decide +kernel) rfl rfl w_743 (fun _ => rfl) (fun _ => rfl) d_MD_init_109 ?_
  refine c_aload C d_MD_init_112 ?_
  refine c_sipush C d_MD_init_113 is_600 ?_
  refine c_newA C (i := 112) (n := 600) (ty := .int) (gc := g.1) (t0 := 0) rfl rfl (fun _ => rfl) (fun _ => by rw [jcell_int (by decide +kernel), show jl 112 = 600 by decide +kernel, show jI0 112 = fun _ => 0 from rfl]) rfl (by decide) (by decide) (by decide) (by decide) (by unfold jclo; decide +kernel) (by decide +kernel) iw_81 (by decide) (by decide) d_MD_init_116 (fun ad12 ea12 => ?_)
  refine c_putR C jcl_MD (by decide +kernel) (k := 16) (by decide) rfl (by decide +kernel) rfl rfl w_745 (fun _ => rfl) (fun _ => rfl) d_MD_init_118 ?_
  refine c_aload C d_MD_init_121 ?_
  refine c_bipush C d_MD_init_122 ib_24 ?_
  refine c_newA C (i := 113) (n := 24) (ty := .int) (gc := g.1) (t0 := 0) rfl rfl (fun _ => rfl) (fun _ => by rw [jcell_int (by decide +kernel), show jl 113 = 24 by decide +kernel, show jI0 113 = fun _ => 0 from rfl]) rfl (by decide) (by decide) (by decide) (by decide) (by unfold jclo; decide +kernel) (by decide +kernel) iw_81 (by decide) (by decide) d_MD_init_124 (fun ad13 ea13 => ?_)
  refine c_putR C jcl_MD (by decide +kernel) (k := 17) (by decide) rfl (by decide +kernel) rfl rfl w_746 (fun _ => rfl) (fun _ => rfl) d_MD_init_126 ?_
  refine c_aload C d_MD_init_129 ?_
  refine c_bipush C d_MD_init_130 ib_m9 ?_
  refine c_putI C (v := (-9 : Int32)) jcl_MD (by decide +kernel) (k := 19) (by decide) rfl (by decide +kernel) rfl rfl w_748 rfl rfl d_MD_init_132 ?_
  refine c_aload C d_MD_init_135 ?_
  refine c_bipush C d_MD_init_136 ib_24 ?_
  refine c_newA C (i := 114) (n := 24) (ty := .int) (gc := g.1) (t0 := 0) rfl rfl (fun _ => rfl) (fun _ => by rw [jcell_int (by decide +kernel), show jl 114 = 24 by decide +kernel, show jI0 114 = fun _ => 0 from rfl]) rfl (by decide) (by decide) (by decide) (by decide) (by unfold jclo; decide +kernel) (by decide +kernel) iw_81 (by decide) (by decide) d_MD_init_138 (fun ad14 ea14 => ?_)
  refine c_putR C jcl_MD (by decide +kernel) (k := 20) (by decide) rfl (by decide +kernel) rfl rfl w_749 (fun _ => rfl) (fun _ => rfl) d_MD_init_140 ?_
  refine c_aload C d_MD_init_143 ?_
  refine c_sipush C d_MD_init_144 is_576 ?_
  refine c_newA C (i := 115) (n := 576) (ty := .int) (gc := g.1) (t0 := 0) rfl rfl (fun _ => rfl) (fun _ => by rw [jcell_int (by decide +kernel), show jl 115 = 576 by decide +kernel, show jI0 115 = fun _ => 0 from rfl]) rfl (by decide) (by decide) (by decide) (by decide) (by unfold jclo; decide +kernel) (by decide +kernel) iw_81 (by decide) (by decide) d_MD_init_147 (fun ad15 ea15 => ?_)
  refine c_putR C jcl_MD (by decide +kernel) (k := 21) (by decide) rfl (by decide +kernel) rfl rfl w_750 (fun _ => rfl) (fun _ => rfl) d_MD_init_149 ?_
  refine c_aload C d_MD_init_152 ?_
  refine c_bipush C d_MD_init_153 ib_24 ?_
  refine c_newA C (i := 116) (n := 24) (ty := .int) (gc := g.1) (t0 := 0) rfl rfl (fun _ => rfl) (fun _ => by rw [jcell_int (by decide +kernel), show jl 116 = 24 by decide +kernel, show jI0 116 = fun _ => 0 from rfl]) rfl (by decide) (by decide) (by decide) (by decide) (by unfold jclo; decide +kernel) (by decide +kernel) iw_81 (by decide) (by decide) d_MD_init_155 (fun ad16 ea16 => ?_)
  refine c_putR C jcl_MD (by decide +kernel) (k := 22) (by decide) rfl (by decide +kernel) rfl rfl w_751 (fun _ => rfl) (fun _ => rfl) d_MD_init_157 ?_
  refine c_aload C d_MD_init_160 ?_
  refine c_bipush C d_MD_init_161 ib_24 ?_
  refine c_newA C (i := 117) (n := 24) (ty := .int) (gc := g.1) (t0 := 0) rfl rfl (fun _ => rfl) (fun _ => by rw [jcell_int (by decide +kernel), show jl 117 = 24 by decide +kernel, show jI0 117 = fun _ => 0 from rfl]) rfl (by decide) (by decide) (by decide) (by decide) (by unfold jclo; decide +kernel) (by decide +kernel) iw_81 (by decide) (by decide) d_MD_init_163 (fun ad17 ea17 => ?_)
  refine c_putR C jcl_MD (by decide +kernel) (k := 23) (by decide) rfl (by decide +kernel) rfl rfl w_752 (fun _ => rfl) (fun _ => rfl) d_MD_init_165 ?_
  exact c_ret C (by decide +kernel) (by decide +kernel) (by decide +kernel) (by unfold jclo; decide +kernel) (by decide +kernel) (by decide +kernel) d_MD_init_168
