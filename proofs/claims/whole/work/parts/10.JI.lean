theorem d_JI_bitCount_0 : decode prog_15_method_49_code 0 = .ok (.iload_n 0, 1) := by decide +kernel
theorem d_JI_bitCount_1 : decode prog_15_method_49_code 1 = .ok (.iload_n 0, 1) := by decide +kernel
theorem d_JI_bitCount_2 : decode prog_15_method_49_code 2 = .ok (.iconst 1, 1) := by decide +kernel
theorem d_JI_bitCount_3 : decode prog_15_method_49_code 3 = .ok (.iushr, 1) := by decide +kernel
theorem d_JI_bitCount_4 : decode prog_15_method_49_code 4 = .ok (.ldc_w 265, 3) := by decide +kernel
theorem d_JI_bitCount_7 : decode prog_15_method_49_code 7 = .ok (.iand, 1) := by decide +kernel
theorem d_JI_bitCount_8 : decode prog_15_method_49_code 8 = .ok (.isub, 1) := by decide +kernel
theorem d_JI_bitCount_9 : decode prog_15_method_49_code 9 = .ok (.istore_n 0, 1) := by decide +kernel
theorem d_JI_bitCount_10 : decode prog_15_method_49_code 10 = .ok (.iload_n 0, 1) := by decide +kernel
theorem d_JI_bitCount_11 : decode prog_15_method_49_code 11 = .ok (.ldc_w 266, 3) := by decide +kernel
theorem d_JI_bitCount_14 : decode prog_15_method_49_code 14 = .ok (.iand, 1) := by decide +kernel
theorem d_JI_bitCount_15 : decode prog_15_method_49_code 15 = .ok (.iload_n 0, 1) := by decide +kernel
theorem d_JI_bitCount_16 : decode prog_15_method_49_code 16 = .ok (.iconst 2, 1) := by decide +kernel
theorem d_JI_bitCount_17 : decode prog_15_method_49_code 17 = .ok (.iushr, 1) := by decide +kernel
theorem d_JI_bitCount_18 : decode prog_15_method_49_code 18 = .ok (.ldc_w 266, 3) := by decide +kernel
theorem d_JI_bitCount_21 : decode prog_15_method_49_code 21 = .ok (.iand, 1) := by decide +kernel
theorem d_JI_bitCount_22 : decode prog_15_method_49_code 22 = .ok (.iadd, 1) := by decide +kernel
theorem d_JI_bitCount_23 : decode prog_15_method_49_code 23 = .ok (.istore_n 0, 1) := by decide +kernel
theorem d_JI_bitCount_24 : decode prog_15_method_49_code 24 = .ok (.iload_n 0, 1) := by decide +kernel
theorem d_JI_bitCount_25 : decode prog_15_method_49_code 25 = .ok (.iload_n 0, 1) := by decide +kernel
theorem d_JI_bitCount_26 : decode prog_15_method_49_code 26 = .ok (.iconst 4, 1) := by decide +kernel
theorem d_JI_bitCount_27 : decode prog_15_method_49_code 27 = .ok (.iushr, 1) := by decide +kernel
theorem d_JI_bitCount_28 : decode prog_15_method_49_code 28 = .ok (.iadd, 1) := by decide +kernel
theorem d_JI_bitCount_29 : decode prog_15_method_49_code 29 = .ok (.ldc_w 267, 3) := by decide +kernel
theorem d_JI_bitCount_32 : decode prog_15_method_49_code 32 = .ok (.iand, 1) := by decide +kernel
theorem d_JI_bitCount_33 : decode prog_15_method_49_code 33 = .ok (.istore_n 0, 1) := by decide +kernel
theorem d_JI_bitCount_34 : decode prog_15_method_49_code 34 = .ok (.iload_n 0, 1) := by decide +kernel
theorem d_JI_bitCount_35 : decode prog_15_method_49_code 35 = .ok (.iload_n 0, 1) := by decide +kernel
theorem d_JI_bitCount_36 : decode prog_15_method_49_code 36 = .ok (.bipush 8, 2) := by decide +kernel
theorem d_JI_bitCount_38 : decode prog_15_method_49_code 38 = .ok (.iushr, 1) := by decide +kernel
theorem d_JI_bitCount_39 : decode prog_15_method_49_code 39 = .ok (.iadd, 1) := by decide +kernel
theorem d_JI_bitCount_40 : decode prog_15_method_49_code 40 = .ok (.istore_n 0, 1) := by decide +kernel
theorem d_JI_bitCount_41 : decode prog_15_method_49_code 41 = .ok (.iload_n 0, 1) := by decide +kernel
theorem d_JI_bitCount_42 : decode prog_15_method_49_code 42 = .ok (.iload_n 0, 1) := by decide +kernel
theorem d_JI_bitCount_43 : decode prog_15_method_49_code 43 = .ok (.bipush 16, 2) := by decide +kernel
theorem d_JI_bitCount_45 : decode prog_15_method_49_code 45 = .ok (.iushr, 1) := by decide +kernel
theorem d_JI_bitCount_46 : decode prog_15_method_49_code 46 = .ok (.iadd, 1) := by decide +kernel
theorem d_JI_bitCount_47 : decode prog_15_method_49_code 47 = .ok (.istore_n 0, 1) := by decide +kernel
theorem d_JI_bitCount_48 : decode prog_15_method_49_code 48 = .ok (.iload_n 0, 1) := by decide +kernel
theorem d_JI_bitCount_49 : decode prog_15_method_49_code 49 = .ok (.bipush 63, 2) := by decide +kernel
theorem d_JI_bitCount_51 : decode prog_15_method_49_code 51 = .ok (.iand, 1) := by decide +kernel
theorem d_JI_bitCount_52 : decode prog_15_method_49_code 52 = .ok (.ireturn, 1) := by decide +kernel
/-- java/lang/Integer.bitCount(I)I -/
def JI_bitCount (v0 : Int32) (I : jM) (K : Int32 → Prop) : Prop :=
  (∀ v0_1 : Int32, v0_1 = (v0 - (((v0.toUInt32 >>> ((1 : Int32).toUInt32 &&& Int32.toUInt32 31)).toInt32) &&& (1431655765 : Int32))) → (∀ v0_2 : Int32, v0_2 = ((v0_1 &&& (858993459 : Int32)) + (((v0_1.toUInt32 >>> ((2 : Int32).toUInt32 &&& Int32.toUInt32 31)).toInt32) &&& (858993459 : Int32))) → (∀ v0_3 : Int32, v0_3 = ((v0_2 + ((v0_2.toUInt32 >>> ((4 : Int32).toUInt32 &&& Int32.toUInt32 31)).toInt32)) &&& (252645135 : Int32)) → (∀ v0_4 : Int32, v0_4 = (v0_3 + ((v0_3.toUInt32 >>> ((8 : Int32).toUInt32 &&& Int32.toUInt32 31)).toInt32)) → (∀ v0_5 : Int32, v0_5 = (v0_4 + ((v0_4.toUInt32 >>> ((16 : Int32).toUInt32 &&& Int32.toUInt32 31)).toInt32)) → K (v0_5 &&& (63 : Int32)))))))
set_option maxRecDepth 100000 in
set_option maxHeartbeats 4000000 in
theorem s_JI_bitCount {l : Launch} {E : jE} (ok : jOK E)  {v0 : Int32} {I : jM} {K : Int32 → Prop} (h : JI_bitCount v0 I K) : jSi l E ⟨"java/lang/Integer", "bitCount", "(I)I"⟩ prog_15_method_49_code 1 (some .int) 0 0 [.int v0] I (fun r I2 => I = I2 ∧ K r) := by
  refine jS_ofF (own := "java/lang/Integer") (by decide +kernel) rfl ok (Nat.le_of_ble_eq_true rfl) (fun Z _ C hr => ?_)
  show jJ Z E 1 (jQi Z E (fun r I2 => I = I2 ∧ K r)) 0 [(0, .int v0)] [] I
  unfold JI_bitCount at h
  refine j_iload_n C d_JI_bitCount_0 rfl 0 rfl ?_
  refine j_iload_n C d_JI_bitCount_1 rfl 0 rfl ?_
  refine j_iconst C d_JI_bitCount_2 ic_1 ?_
  refine j_iushr C d_JI_bitCount_3 ?_
  refine j_ldcw C (v := (1431655765 : Int32)) d_JI_bitCount_4 w_414 ?_
  refine j_iand C d_JI_bitCount_7 ?_
  refine j_isub C d_JI_bitCount_8 ?_
  refine j_topi (fun v0_1 ev0_1 => ?_)
  have h := h v0_1 ev0_1
  refine j_istore_n C d_JI_bitCount_9 rfl (by decide) (lv' := [(0, .int v0_1)]) rfl ?_
  refine j_iload_n C d_JI_bitCount_10 rfl 0 rfl ?_
  refine j_ldcw C (v := (858993459 : Int32)) d_JI_bitCount_11 w_415 ?_
  refine j_iand C d_JI_bitCount_14 ?_
  refine j_iload_n C d_JI_bitCount_15 rfl 0 rfl ?_
  refine j_iconst C d_JI_bitCount_16 ic_2 ?_
  refine j_iushr C d_JI_bitCount_17 ?_
  refine j_ldcw C (v := (858993459 : Int32)) d_JI_bitCount_18 w_415 ?_
  refine j_iand C d_JI_bitCount_21 ?_
  refine j_iadd C d_JI_bitCount_22 ?_
  refine j_topi (fun v0_2 ev0_2 => ?_)
  have h := h v0_2 ev0_2
  refine j_istore_n C d_JI_bitCount_23 rfl (by decide) (lv' := [(0, .int v0_2)]) rfl ?_
  refine j_iload_n C d_JI_bitCount_24 rfl 0 rfl ?_
  refine j_iload_n C d_JI_bitCount_25 rfl 0 rfl ?_
  refine j_iconst C d_JI_bitCount_26 ic_4 ?_
  refine j_iushr C d_JI_bitCount_27 ?_
  refine j_iadd C d_JI_bitCount_28 ?_
  refine j_ldcw C (v := (252645135 : Int32)) d_JI_bitCount_29 w_416 ?_
  refine j_iand C d_JI_bitCount_32 ?_
  refine j_topi (fun v0_3 ev0_3 => ?_)
  have h := h v0_3 ev0_3
  refine j_istore_n C d_JI_bitCount_33 rfl (by decide) (lv' := [(0, .int v0_3)]) rfl ?_
  refine j_iload_n C d_JI_bitCount_34 rfl 0 rfl ?_
  refine j_iload_n C d_JI_bitCount_35 rfl 0 rfl ?_
  refine j_bipush C d_JI_bitCount_36 ib_8 ?_
  refine j_iushr C d_JI_bitCount_38 ?_
  refine j_iadd C d_JI_bitCount_39 ?_
  refine j_topi (fun v0_4 ev0_4 => ?_)
  have h := h v0_4 ev0_4
  refine j_istore_n C d_JI_bitCount_40 rfl (by decide) (lv' := [(0, .int v0_4)]) rfl ?_
  refine j_iload_n C d_JI_bitCount_41 rfl 0 rfl ?_
  refine j_iload_n C d_JI_bitCount_42 rfl 0 rfl ?_
  refine j_bipush C d_JI_bitCount_43 ib_16 ?_
  refine j_iushr C d_JI_bitCount_45 ?_
  refine j_iadd C d_JI_bitCount_46 ?_
  refine j_topi (fun v0_5 ev0_5 => ?_)
  have h := h v0_5 ev0_5
  refine j_istore_n C d_JI_bitCount_47 rfl (by decide) (lv' := [(0, .int v0_5)]) rfl ?_
  refine j_iload_n C d_JI_bitCount_48 rfl 0 rfl ?_
  refine j_bipush C d_JI_bitCount_49 ib_63 ?_
  refine j_iand C d_JI_bitCount_51 ?_
  exact j_iret C hr d_JI_bitCount_52 ⟨rfl, h⟩
