theorem d_LE_isGood_0 : decode prog_4_method_7_code 0 = .ok (.aload_n 0, 1) := by decide +kernel
theorem d_LE_isGood_1 : decode prog_4_method_7_code 1 = .ok (.getfield 26, 3) := by decide +kernel
theorem d_LE_isGood_4 : decode prog_4_method_7_code 4 = .ok (.getfield 98, 3) := by decide +kernel
theorem d_LE_isGood_7 : decode prog_4_method_7_code 7 = .ok (.iload_n 2, 1) := by decide +kernel
theorem d_LE_isGood_8 : decode prog_4_method_7_code 8 = .ok (.iaload, 1) := by decide +kernel
theorem d_LE_isGood_9 : decode prog_4_method_7_code 9 = .ok (.invokestatic 57, 3) := by decide +kernel
theorem d_LE_isGood_12 : decode prog_4_method_7_code 12 = .ok (.istore 4, 2) := by decide +kernel
theorem d_LE_isGood_14 : decode prog_4_method_7_code 14 = .ok (.iload_n 1, 1) := by decide +kernel
theorem d_LE_isGood_15 : decode prog_4_method_7_code 15 = .ok (.iconst 1, 1) := by decide +kernel
theorem d_LE_isGood_16 : decode prog_4_method_7_code 16 = .ok (.iload_n 2, 1) := by decide +kernel
theorem d_LE_isGood_17 : decode prog_4_method_7_code 17 = .ok (.ishl, 1) := by decide +kernel
theorem d_LE_isGood_18 : decode prog_4_method_7_code 18 = .ok (.ior, 1) := by decide +kernel
theorem d_LE_isGood_19 : decode prog_4_method_7_code 19 = .ok (.istore 5, 2) := by decide +kernel
theorem d_LE_isGood_21 : decode prog_4_method_7_code 21 = .ok (.iload_n 3, 1) := by decide +kernel
theorem d_LE_isGood_22 : decode prog_4_method_7_code 22 = .ok (.ifCond .eq 32, 3) := by decide +kernel
theorem d_LE_isGood_25 : decode prog_4_method_7_code 25 = .ok (.iload 4, 2) := by decide +kernel
theorem d_LE_isGood_27 : decode prog_4_method_7_code 27 = .ok (.aload_n 0, 1) := by decide +kernel
theorem d_LE_isGood_28 : decode prog_4_method_7_code 28 = .ok (.getfield 15, 3) := by decide +kernel
theorem d_LE_isGood_31 : decode prog_4_method_7_code 31 = .ok (.iload 5, 2) := by decide +kernel
theorem d_LE_isGood_33 : decode prog_4_method_7_code 33 = .ok (.iaload, 1) := by decide +kernel
theorem d_LE_isGood_34 : decode prog_4_method_7_code 34 = .ok (.invokestatic 69, 3) := by decide +kernel
theorem d_LE_isGood_37 : decode prog_4_method_7_code 37 = .ok (.aload_n 0, 1) := by decide +kernel
theorem d_LE_isGood_38 : decode prog_4_method_7_code 38 = .ok (.getfield 15, 3) := by decide +kernel
theorem d_LE_isGood_41 : decode prog_4_method_7_code 41 = .ok (.iconst 0, 1) := by decide +kernel
theorem d_LE_isGood_42 : decode prog_4_method_7_code 42 = .ok (.iaload, 1) := by decide +kernel
theorem d_LE_isGood_43 : decode prog_4_method_7_code 43 = .ok (.if_icmp .gt 7, 3) := by decide +kernel
theorem d_LE_isGood_46 : decode prog_4_method_7_code 46 = .ok (.iconst 1, 1) := by decide +kernel
theorem d_LE_isGood_47 : decode prog_4_method_7_code 47 = .ok (.goto 31, 3) := by decide +kernel
theorem d_LE_isGood_50 : decode prog_4_method_7_code 50 = .ok (.iconst 0, 1) := by decide +kernel
theorem d_LE_isGood_51 : decode prog_4_method_7_code 51 = .ok (.goto 27, 3) := by decide +kernel
theorem d_LE_isGood_54 : decode prog_4_method_7_code 54 = .ok (.iload 4, 2) := by decide +kernel
theorem d_LE_isGood_56 : decode prog_4_method_7_code 56 = .ok (.aload_n 0, 1) := by decide +kernel
theorem d_LE_isGood_57 : decode prog_4_method_7_code 57 = .ok (.getfield 9, 3) := by decide +kernel
theorem d_LE_isGood_60 : decode prog_4_method_7_code 60 = .ok (.iload 5, 2) := by decide +kernel
theorem d_LE_isGood_62 : decode prog_4_method_7_code 62 = .ok (.iaload, 1) := by decide +kernel
theorem d_LE_isGood_63 : decode prog_4_method_7_code 63 = .ok (.iadd, 1) := by decide +kernel
theorem d_LE_isGood_64 : decode prog_4_method_7_code 64 = .ok (.aload_n 0, 1) := by decide +kernel
theorem d_LE_isGood_65 : decode prog_4_method_7_code 65 = .ok (.getfield 9, 3) := by decide +kernel
theorem d_LE_isGood_68 : decode prog_4_method_7_code 68 = .ok (.iload_n 1, 1) := by decide +kernel
theorem d_LE_isGood_69 : decode prog_4_method_7_code 69 = .ok (.iaload, 1) := by decide +kernel
theorem d_LE_isGood_70 : decode prog_4_method_7_code 70 = .ok (.if_icmp .ne 7, 3) := by decide +kernel
theorem d_LE_isGood_73 : decode prog_4_method_7_code 73 = .ok (.iconst 1, 1) := by decide +kernel
theorem d_LE_isGood_74 : decode prog_4_method_7_code 74 = .ok (.goto 4, 3) := by decide +kernel
theorem d_LE_isGood_77 : decode prog_4_method_7_code 77 = .ok (.iconst 0, 1) := by decide +kernel
theorem d_LE_isGood_78 : decode prog_4_method_7_code 78 = .ok (.ireturn, 1) := by decide +kernel
/-- OutOrder$Least.isGood(IIZ)Z -/
def LE_isGood (h0 : Nat) (v1 : Int32) (v2 : Int32) (v3 : Int32) (I : jM) (K : Int32 → Prop) : Prop :=
  (vp_in v2 24 ∧ JI_bitCount (I (jr (jr h0 3) 0) v2.toNatClampNeg) I (fun r_1 => (∀ v5_2 : Int32, v5_2 = (v1 ||| ((1 : Int32) <<< (v2 &&& 31))) → ((v3 = 0 → (vp_in v5_2 4096 ∧ (vp_in v1 4096 ∧ ((¬ (r_1 + (I (jr h0 0) v5_2.toNatClampNeg)) = (I (jr h0 0) v1.toNatClampNeg) → K (0 : Int32)) ∧ ((r_1 + (I (jr h0 0) v5_2.toNatClampNeg)) = (I (jr h0 0) v1.toNatClampNeg) → K (1 : Int32)))))) ∧ (¬ v3 = 0 → (vp_in v5_2 4096 ∧ JM_max r_1 (I (jr h0 1) v5_2.toNatClampNeg) I (fun r_3 => (vp_in (0 : Int32) 4096 ∧ (((I (jr h0 1) (0 : Int32).toNatClampNeg) < r_3 → K (0 : Int32)) ∧ (¬ (I (jr h0 1) (0 : Int32).toNatClampNeg) < r_3 → K (1 : Int32)))))))))))
set_option maxRecDepth 100000 in
set_option maxHeartbeats 4000000 in
theorem s_LE_isGood {l : Launch} {E : jE} (ok : jOK E) (hE : E.2.2.2 = jLX) {h0 : Nat} {v1 : Int32} {v2 : Int32} {v3 : Int32} (g_h0 : jOB E 2 h0) {I : jM} {K : Int32 → Prop} (h : LE_isGood h0 v1 v2 v3 I K) : jSi l E ⟨"OutOrder$Least", "isGood", "(IIZ)Z"⟩ prog_4_method_7_code 6 (some .boolean) 1 21 [.ref (E.2.2.1 h0), .int v1, .int v2, .int v3] I (fun r I2 => I = I2 ∧ K r) := by
  refine jS_ofF (own := "OutOrder$Least") (by decide +kernel) rfl ok (Nat.le_of_ble_eq_true rfl) (fun Z _ C hr => ?_)
  show jJ Z E 6 (jQi Z E (fun r I2 => I = I2 ∧ K r)) 0 [(0, .ref (E.2.2.1 h0)), (1, .int v1), (2, .int v2), (3, .int v3)] [] I
  unfold LE_isGood at h
  refine j_aload_n C d_LE_isGood_0 rfl 0 rfl ?_
  refine fg_LE_26 C g_h0 d_LE_isGood_1 ?_
  refine fg_LE_98 C (sh_LE_3 hE g_h0) d_LE_isGood_4 ?_
  refine j_iload_n C d_LE_isGood_7 rfl 2 rfl ?_
  obtain ⟨hi, h⟩ := h
  refine j_iaload C (sh_NE_0 hE (sh_LE_3 hE g_h0)) hi d_LE_isGood_8 ?_
  refine j_callSi (As := [.int (I (jr (jr h0 3) 0) v2.toNatClampNeg)]) C cw_LE_57 w_412 rfl rfl (by decide) (by decide) (Nat.le_of_ble_eq_true rfl) d_LE_isGood_9 (s_JI_bitCount C.ok  h) (fun r_1 I2 h => ?_)
  obtain ⟨rfl, h⟩ := h
  refine j_istore C d_LE_isGood_12 (by decide) (lv' := [(4, .int r_1), (0, .ref (E.2.2.1 h0)), (1, .int v1), (2, .int v2), (3, .int v3)]) rfl ?_
  refine j_iload_n C d_LE_isGood_14 rfl 2 rfl ?_
  refine j_iconst C d_LE_isGood_15 ic_1 ?_
  refine j_iload_n C d_LE_isGood_16 rfl 3 rfl ?_
  refine j_ishl C d_LE_isGood_17 ?_
  refine j_ior C d_LE_isGood_18 ?_
  refine j_topi (fun v5_2 ev5_2 => ?_)
  have h := h v5_2 ev5_2
  refine j_istore C d_LE_isGood_19 (by decide) (lv' := [(5, .int v5_2), (4, .int r_1), (0, .ref (E.2.2.1 h0)), (1, .int v1), (2, .int v2), (3, .int v3)]) rfl ?_
  refine j_iload_n C d_LE_isGood_21 rfl 5 rfl ?_
  refine j_if_eq C d_LE_isGood_22 (tgt := 54) (by decide) (fun c22 => ?_) (fun c22 => ?_)
  · have h := h.1 c22
    refine j_iload C d_LE_isGood_54 1 rfl ?_
    refine j_aload_n C d_LE_isGood_56 rfl 2 rfl ?_
    refine fg_LE_9 C g_h0 d_LE_isGood_57 ?_
    refine j_iload C d_LE_isGood_60 0 rfl ?_
    obtain ⟨hi, h⟩ := h
    refine j_iaload C (sh_LE_0 hE g_h0) hi d_LE_isGood_62 ?_
    refine j_iadd C d_LE_isGood_63 ?_
    refine j_aload_n C d_LE_isGood_64 rfl 2 rfl ?_
    refine fg_LE_9 C g_h0 d_LE_isGood_65 ?_
    refine j_iload_n C d_LE_isGood_68 rfl 3 rfl ?_
    obtain ⟨hi, h⟩ := h
    refine j_iaload C (sh_LE_0 hE g_h0) hi d_LE_isGood_69 ?_
    refine j_icmp_ne C d_LE_isGood_70 (tgt := 77) (by decide) (fun c70 => ?_) (fun c70 => ?_)
    · have h := h.1 c70
      refine j_iconst C d_LE_isGood_77 ic_0 ?_
      exact j_zret C hr (by decide) d_LE_isGood_78 ⟨rfl, h⟩
    · have h := h.2 c70
      refine j_iconst C d_LE_isGood_73 ic_1 ?_
      refine j_goto C d_LE_isGood_74 (tgt := 78) (by decide) ?_
      exact j_zret C hr (by decide) d_LE_isGood_78 ⟨rfl, h⟩
  · have h := h.2 c22
    refine j_iload C d_LE_isGood_25 1 rfl ?_
    refine j_aload_n C d_LE_isGood_27 rfl 2 rfl ?_
    refine fg_LE_15 C g_h0 d_LE_isGood_28 ?_
    refine j_iload C d_LE_isGood_31 0 rfl ?_
    obtain ⟨hi, h⟩ := h
    refine j_iaload C (sh_LE_1 hE g_h0) hi d_LE_isGood_33 ?_
    refine j_callSi (As := [.int r_1, .int (I (jr h0 1) v5_2.toNatClampNeg)]) C cw_LE_69 w_445 rfl rfl (by decide) (by decide) (Nat.le_of_ble_eq_true rfl) d_LE_isGood_34 (s_JM_max C.ok  h) (fun r_3 I2 h => ?_)
    obtain ⟨rfl, h⟩ := h
    refine j_aload_n C d_LE_isGood_37 rfl 2 rfl ?_
    refine fg_LE_15 C g_h0 d_LE_isGood_38 ?_
    refine j_iconst C d_LE_isGood_41 ic_0 ?_
    obtain ⟨hi, h⟩ := h
    refine j_iaload C (sh_LE_1 hE g_h0) hi d_LE_isGood_42 ?_
    refine j_icmp_gt C d_LE_isGood_43 (tgt := 50) (by decide) (fun c43 => ?_) (fun c43 => ?_)
    · have h := h.1 c43
      refine j_iconst C d_LE_isGood_50 ic_0 ?_
      refine j_goto C d_LE_isGood_51 (tgt := 78) (by decide) ?_
      exact j_zret C hr (by decide) d_LE_isGood_78 ⟨rfl, h⟩
    · have h := h.2 c43
      refine j_iconst C d_LE_isGood_46 ic_1 ?_
      refine j_goto C d_LE_isGood_47 (tgt := 78) (by decide) ?_
      exact j_zret C hr (by decide) d_LE_isGood_78 ⟨rfl, h⟩
theorem d_LE_firstGood_0 : decode prog_4_method_6_code 0 = .ok (.iconst 0, 1) := by decide +kernel
theorem d_LE_firstGood_1 : decode prog_4_method_6_code 1 = .ok (.istore_n 3, 1) := by decide +kernel
theorem d_LE_firstGood_2 : decode prog_4_method_6_code 2 = .ok (.iload_n 3, 1) := by decide +kernel
theorem d_LE_firstGood_3 : decode prog_4_method_6_code 3 = .ok (.aload_n 0, 1) := by decide +kernel
theorem d_LE_firstGood_4 : decode prog_4_method_6_code 4 = .ok (.getfield 26, 3) := by decide +kernel
theorem d_LE_firstGood_7 : decode prog_4_method_6_code 7 = .ok (.getfield 89, 3) := by decide +kernel
theorem d_LE_firstGood_10 : decode prog_4_method_6_code 10 = .ok (.if_icmp .ge 32, 3) := by decide +kernel
theorem d_LE_firstGood_13 : decode prog_4_method_6_code 13 = .ok (.aload_n 0, 1) := by decide +kernel
theorem d_LE_firstGood_14 : decode prog_4_method_6_code 14 = .ok (.getfield 26, 3) := by decide +kernel
theorem d_LE_firstGood_17 : decode prog_4_method_6_code 17 = .ok (.iload_n 3, 1) := by decide +kernel
theorem d_LE_firstGood_18 : decode prog_4_method_6_code 18 = .ok (.invokevirtual 90, 3) := by decide +kernel
theorem d_LE_firstGood_21 : decode prog_4_method_6_code 21 = .ok (.ifCond .eq 15, 3) := by decide +kernel
theorem d_LE_firstGood_24 : decode prog_4_method_6_code 24 = .ok (.aload_n 0, 1) := by decide +kernel
theorem d_LE_firstGood_25 : decode prog_4_method_6_code 25 = .ok (.iload_n 1, 1) := by decide +kernel
theorem d_LE_firstGood_26 : decode prog_4_method_6_code 26 = .ok (.iload_n 3, 1) := by decide +kernel
theorem d_LE_firstGood_27 : decode prog_4_method_6_code 27 = .ok (.iload_n 2, 1) := by decide +kernel
theorem d_LE_firstGood_28 : decode prog_4_method_6_code 28 = .ok (.invokevirtual 94, 3) := by decide +kernel
theorem d_LE_firstGood_31 : decode prog_4_method_6_code 31 = .ok (.ifCond .eq 5, 3) := by decide +kernel
theorem d_LE_firstGood_34 : decode prog_4_method_6_code 34 = .ok (.iload_n 3, 1) := by decide +kernel
theorem d_LE_firstGood_35 : decode prog_4_method_6_code 35 = .ok (.ireturn, 1) := by decide +kernel
theorem d_LE_firstGood_36 : decode prog_4_method_6_code 36 = .ok (.iinc 3 1, 3) := by decide +kernel
theorem d_LE_firstGood_39 : decode prog_4_method_6_code 39 = .ok (.goto (-37), 3) := by decide +kernel
theorem d_LE_firstGood_42 : decode prog_4_method_6_code 42 = .ok (.iconst 0, 1) := by decide +kernel
theorem d_LE_firstGood_43 : decode prog_4_method_6_code 43 = .ok (.ireturn, 1) := by decide +kernel
def LE_firstGood_2b (h0 : Nat) (v1 : Int32) (v2 : Int32) (v3 : Int32) (I : jM) (K : Int32 → Prop) (X2 : Int32 → Prop) : Prop :=
  (((I (jr h0 3) 2) ≤ v3 → K (0 : Int32)) ∧ (¬ (I (jr h0 3) 2) ≤ v3 → NE_has (jr h0 3) v3 I (fun r_1 => ((r_1 = 0 → X2 (v3 + 1)) ∧ (¬ r_1 = 0 → LE_isGood h0 v1 v3 v2 I (fun r_2 => ((r_2 = 0 → X2 (v3 + 1)) ∧ (¬ r_2 = 0 → K v3))))))))
def LE_firstGood_2 (h0 : Nat) (v1 : Int32) (v2 : Int32) (v3 : Int32) (I : jM) (K : Int32 → Prop) : Prop :=
  lp (fun (X2 : Int32 → Prop) (s : Int32) => LE_firstGood_2b h0 v1 v2 s I K X2) v3
set_option maxRecDepth 100000 in
set_option maxHeartbeats 4000000 in
theorem kb_LE_firstGood_2 {Z : jZ} {E : jE} (C : jC Z E prog_4_method_6_code 4 "OutOrder$Least" 2 46) (hr : (jZh Z).sig.returnType = (some .int)) (hE : E.2.2.2 = jLX)  (h0 : Nat) (v1 : Int32) (v2 : Int32) (v3 : Int32) (I : jM) (g_h0 : jOB E 2 h0) {K : Int32 → Prop} {X2 : Int32 → Prop} (hX2 : ∀ s : Int32, X2 s → jJ Z E 4 (jQi Z E (fun r I2 => I = I2 ∧ K r)) 2 [(0, .ref (E.2.2.1 h0)), (1, .int v1), (2, .int v2), (3, .int s)] [] I) (h : LE_firstGood_2b h0 v1 v2 v3 I K X2) : jJ Z E 4 (jQi Z E (fun r I2 => I = I2 ∧ K r)) 2 [(0, .ref (E.2.2.1 h0)), (1, .int v1), (2, .int v2), (3, .int v3)] [] I := by
  unfold LE_firstGood_2b at h
  refine j_iload_n C d_LE_firstGood_2 rfl 3 rfl ?_
  refine j_aload_n C d_LE_firstGood_3 rfl 0 rfl ?_
  refine fg_LE_26 C g_h0 d_LE_firstGood_4 ?_
  refine fg_LE_89 C (sh_LE_3 hE g_h0) d_LE_firstGood_7 ?_
  refine j_icmp_ge C d_LE_firstGood_10 (tgt := 42) (by decide) (fun c10 => ?_) (fun c10 => ?_)
  · have h := h.1 c10
    refine j_iconst C d_LE_firstGood_42 ic_0 ?_
    exact j_iret C hr d_LE_firstGood_43 ⟨rfl, h⟩
  · have h := h.2 c10
    refine j_aload_n C d_LE_firstGood_13 rfl 0 rfl ?_
    refine fg_LE_26 C g_h0 d_LE_firstGood_14 ?_
    refine j_iload_n C d_LE_firstGood_17 rfl 3 rfl ?_
    refine j_callVi (As := [.int v3]) C jcl_NE cw_LE_90 w_457 w_458 (sh_LE_3 hE g_h0) rfl rfl (by decide) (by decide) (Nat.le_of_ble_eq_true rfl) d_LE_firstGood_18 (s_NE_has C.ok (sh_LE_3 hE g_h0) h) (fun r_1 I2 h => ?_)
    obtain ⟨rfl, h⟩ := h
    refine j_if_eq C d_LE_firstGood_21 (tgt := 36) (by decide) (fun c21 => ?_) (fun c21 => ?_)
    · have h := h.1 c21
      refine j_iinc C d_LE_firstGood_36 3 rfl (v := (v3 + 1)) rfl (by decide) (lv' := [(3, .int (v3 + 1)), (0, .ref (E.2.2.1 h0)), (1, .int v1), (2, .int v2)]) rfl ?_
      refine j_goto C d_LE_firstGood_39 (tgt := 2) (by decide) ?_
      refine j_lv [1, 2, 3, 0] rfl ?_
      exact hX2 (v3 + 1) h
    · have h := h.2 c21
      refine j_aload_n C d_LE_firstGood_24 rfl 0 rfl ?_
      refine j_iload_n C d_LE_firstGood_25 rfl 1 rfl ?_
      refine j_iload_n C d_LE_firstGood_26 rfl 3 rfl ?_
      refine j_iload_n C d_LE_firstGood_27 rfl 2 rfl ?_
      refine j_callVi (As := [.int v1, .int v3, .int v2]) C jcl_LE cw_LE_94 w_462 ws_10 g_h0 rfl rfl (by decide) (by decide) (Nat.le_of_ble_eq_true rfl) d_LE_firstGood_28 (s_LE_isGood C.ok hE g_h0 h) (fun r_2 I2 h => ?_)
      obtain ⟨rfl, h⟩ := h
      refine j_if_eq C d_LE_firstGood_31 (tgt := 36) (by decide) (fun c31 => ?_) (fun c31 => ?_)
      · have h := h.1 c31
        refine j_iinc C d_LE_firstGood_36 3 rfl (v := (v3 + 1)) rfl (by decide) (lv' := [(3, .int (v3 + 1)), (0, .ref (E.2.2.1 h0)), (1, .int v1), (2, .int v2)]) rfl ?_
        refine j_goto C d_LE_firstGood_39 (tgt := 2) (by decide) ?_
        refine j_lv [1, 2, 3, 0] rfl ?_
        exact hX2 (v3 + 1) h
      · have h := h.2 c31
        refine j_iload_n C d_LE_firstGood_34 rfl 3 rfl ?_
        exact j_iret C hr d_LE_firstGood_35 ⟨rfl, h⟩
theorem k_LE_firstGood_2 {Z : jZ} {E : jE} (C : jC Z E prog_4_method_6_code 4 "OutOrder$Least" 2 46) (hr : (jZh Z).sig.returnType = (some .int)) (hE : E.2.2.2 = jLX)  (h0 : Nat) (v1 : Int32) (v2 : Int32) (v3 : Int32) (I : jM) (g_h0 : jOB E 2 h0) {K : Int32 → Prop} (h : LE_firstGood_2 h0 v1 v2 v3 I K) : jJ Z E 4 (jQi Z E (fun r I2 => I = I2 ∧ K r)) 2 [(0, .ref (E.2.2.1 h0)), (1, .int v1), (2, .int v2), (3, .int v3)] [] I := by
  unfold LE_firstGood_2 at h
  exact h (fun s => jJ Z E 4 (jQi Z E (fun r I2 => I = I2 ∧ K r)) 2 [(0, .ref (E.2.2.1 h0)), (1, .int v1), (2, .int v2), (3, .int s)] [] I) (fun s hs => kb_LE_firstGood_2 C hr hE h0 v1 v2 s I g_h0 (fun s2 h2 => h2) hs)
/-- OutOrder$Least.firstGood(IZ)I -/
def LE_firstGood (h0 : Nat) (v1 : Int32) (v2 : Int32) (I : jM) (K : Int32 → Prop) : Prop :=
  LE_firstGood_2 h0 v1 v2 (0 : Int32) I K
set_option maxRecDepth 100000 in
set_option maxHeartbeats 4000000 in
theorem s_LE_firstGood {l : Launch} {E : jE} (ok : jOK E) (hE : E.2.2.2 = jLX) {h0 : Nat} {v1 : Int32} {v2 : Int32} (g_h0 : jOB E 2 h0) {I : jM} {K : Int32 → Prop} (h : LE_firstGood h0 v1 v2 I K) : jSi l E ⟨"OutOrder$Least", "firstGood", "(IZ)I"⟩ prog_4_method_6_code 4 (some .int) 2 46 [.ref (E.2.2.1 h0), .int v1, .int v2] I (fun r I2 => I = I2 ∧ K r) := by
  refine jS_ofF (own := "OutOrder$Least") (by decide +kernel) rfl ok (Nat.le_of_ble_eq_true rfl) (fun Z _ C hr => ?_)
  show jJ Z E 4 (jQi Z E (fun r I2 => I = I2 ∧ K r)) 0 [(0, .ref (E.2.2.1 h0)), (1, .int v1), (2, .int v2)] [] I
  unfold LE_firstGood at h
  refine j_iconst C d_LE_firstGood_0 ic_0 ?_
  refine j_istore_n C d_LE_firstGood_1 rfl (by decide) (lv' := [(3, .int (0 : Int32)), (0, .ref (E.2.2.1 h0)), (1, .int v1), (2, .int v2)]) rfl ?_
  refine j_lv [1, 2, 3, 0] rfl ?_
  exact k_LE_firstGood_2 C hr hE h0 v1 v2 (0 : Int32) I g_h0 h
theorem d_LE_makeNet_0 : decode prog_4_method_3_code 0 = .ok (.iload_n 2, 1) := by decide +kernel
theorem d_LE_makeNet_1 : decode prog_4_method_3_code 1 = .ok (.iload_n 1, 1) := by decide +kernel
theorem d_LE_makeNet_2 : decode prog_4_method_3_code 2 = .ok (.ishr, 1) := by decide +kernel
theorem d_LE_makeNet_3 : decode prog_4_method_3_code 3 = .ok (.iconst 1, 1) := by decide +kernel
theorem d_LE_makeNet_4 : decode prog_4_method_3_code 4 = .ok (.iand, 1) := by decide +kernel
theorem d_LE_makeNet_5 : decode prog_4_method_3_code 5 = .ok (.iconst 1, 1) := by decide +kernel
theorem d_LE_makeNet_6 : decode prog_4_method_3_code 6 = .ok (.if_icmp .ne 25, 3) := by decide +kernel
theorem d_LE_makeNet_9 : decode prog_4_method_3_code 9 = .ok (.iload_n 1, 1) := by decide +kernel
theorem d_LE_makeNet_10 : decode prog_4_method_3_code 10 = .ok (.aload_n 0, 1) := by decide +kernel
theorem d_LE_makeNet_11 : decode prog_4_method_3_code 11 = .ok (.getfield 20, 3) := by decide +kernel
theorem d_LE_makeNet_14 : decode prog_4_method_3_code 14 = .ok (.iload_n 1, 1) := by decide +kernel
theorem d_LE_makeNet_15 : decode prog_4_method_3_code 15 = .ok (.iconst 1, 1) := by decide +kernel
theorem d_LE_makeNet_16 : decode prog_4_method_3_code 16 = .ok (.iadd, 1) := by decide +kernel
theorem d_LE_makeNet_17 : decode prog_4_method_3_code 17 = .ok (.aaload, 1) := by decide +kernel
theorem d_LE_makeNet_18 : decode prog_4_method_3_code 18 = .ok (.aload_n 0, 1) := by decide +kernel
theorem d_LE_makeNet_19 : decode prog_4_method_3_code 19 = .ok (.getfield 20, 3) := by decide +kernel
theorem d_LE_makeNet_22 : decode prog_4_method_3_code 22 = .ok (.iload_n 1, 1) := by decide +kernel
theorem d_LE_makeNet_23 : decode prog_4_method_3_code 23 = .ok (.aaload, 1) := by decide +kernel
theorem d_LE_makeNet_24 : decode prog_4_method_3_code 24 = .ok (.iload_n 3, 1) := by decide +kernel
theorem d_LE_makeNet_25 : decode prog_4_method_3_code 25 = .ok (.invokestatic 47, 3) := by decide +kernel
theorem d_LE_makeNet_28 : decode prog_4_method_3_code 28 = .ok (.goto 23, 3) := by decide +kernel
theorem d_LE_makeNet_31 : decode prog_4_method_3_code 31 = .ok (.aload_n 0, 1) := by decide +kernel
theorem d_LE_makeNet_32 : decode prog_4_method_3_code 32 = .ok (.getfield 20, 3) := by decide +kernel
theorem d_LE_makeNet_35 : decode prog_4_method_3_code 35 = .ok (.iload_n 1, 1) := by decide +kernel
theorem d_LE_makeNet_36 : decode prog_4_method_3_code 36 = .ok (.iconst 1, 1) := by decide +kernel
theorem d_LE_makeNet_37 : decode prog_4_method_3_code 37 = .ok (.iadd, 1) := by decide +kernel
theorem d_LE_makeNet_38 : decode prog_4_method_3_code 38 = .ok (.aaload, 1) := by decide +kernel
theorem d_LE_makeNet_39 : decode prog_4_method_3_code 39 = .ok (.iconst 0, 1) := by decide +kernel
theorem d_LE_makeNet_40 : decode prog_4_method_3_code 40 = .ok (.aload_n 0, 1) := by decide +kernel
theorem d_LE_makeNet_41 : decode prog_4_method_3_code 41 = .ok (.getfield 20, 3) := by decide +kernel
theorem d_LE_makeNet_44 : decode prog_4_method_3_code 44 = .ok (.iload_n 1, 1) := by decide +kernel
theorem d_LE_makeNet_45 : decode prog_4_method_3_code 45 = .ok (.aaload, 1) := by decide +kernel
theorem d_LE_makeNet_46 : decode prog_4_method_3_code 46 = .ok (.iconst 0, 1) := by decide +kernel
theorem d_LE_makeNet_47 : decode prog_4_method_3_code 47 = .ok (.iload_n 3, 1) := by decide +kernel
theorem d_LE_makeNet_48 : decode prog_4_method_3_code 48 = .ok (.invokestatic 51, 3) := by decide +kernel
theorem d_LE_makeNet_51 : decode prog_4_method_3_code 51 = .ok (.return_, 1) := by decide +kernel
/-- OutOrder$Least.makeNet(III)V -/
def LE_makeNet (h0 : Nat) (v1 : Int32) (v2 : Int32) (v3 : Int32) (I : jM) (K : jM → Prop) : Prop :=
  ((¬ ((v2 >>> (v1 &&& 31)) &&& (1 : Int32)) = (1 : Int32) → (vp_in (v1 + (1 : Int32)) 13 ∧ (vp_in v1 13 ∧ (¬ (0 : Int32) < 0 ∧ ¬ (0 : Int32) < 0 ∧ ¬ v3 < 0 ∧ (0 : Int32).toNatClampNeg + v3.toNatClampNeg ≤ 12 ∧ (0 : Int32).toNatClampNeg + v3.toNatClampNeg ≤ 12 ∧ (∀ I_3 : jM, I_3 = jrow I (jw (jr h0 2) v1.toNatClampNeg) (va_cpy (I (jw (jr h0 2) (v1 + (1 : Int32)).toNatClampNeg)) (I (jw (jr h0 2) v1.toNatClampNeg)) (0 : Int32).toNatClampNeg (0 : Int32).toNatClampNeg v3.toNatClampNeg) → K I_3))))) ∧ (((v2 >>> (v1 &&& 31)) &&& (1 : Int32)) = (1 : Int32) → (vp_in (v1 + (1 : Int32)) 13 ∧ (vp_in v1 13 ∧ NE_copyWithout v1 (jw (jr h0 2) (v1 + (1 : Int32)).toNatClampNeg) (jw (jr h0 2) v1.toNatClampNeg) v3 I (fun I_7 => K I_7)))))
set_option maxRecDepth 100000 in
set_option maxHeartbeats 4000000 in
theorem s_LE_makeNet {l : Launch} {E : jE} (ok : jOK E) (hE : E.2.2.2 = jLX) {h0 : Nat} {v1 : Int32} {v2 : Int32} {v3 : Int32} (g_h0 : jOB E 2 h0) {I : jM} {K : jM → Prop} (h : LE_makeNet h0 v1 v2 v3 I K) : jSv l E ⟨"OutOrder$Least", "makeNet", "(III)V"⟩ prog_4_method_3_code 4 none 1 26 [.ref (E.2.2.1 h0), .int v1, .int v2, .int v3] I K := by
  refine jS_ofF (own := "OutOrder$Least") (by decide +kernel) rfl ok (Nat.le_of_ble_eq_true rfl) (fun Z _ C hr => ?_)
  show jJ Z E 4 (jQv Z E K) 0 [(0, .ref (E.2.2.1 h0)), (1, .int v1), (2, .int v2), (3, .int v3)] [] I
  unfold LE_makeNet at h
  refine j_iload_n C d_LE_makeNet_0 rfl 2 rfl ?_
  refine j_iload_n C d_LE_makeNet_1 rfl 1 rfl ?_
  refine j_ishr C d_LE_makeNet_2 ?_
  refine j_iconst C d_LE_makeNet_3 ic_1 ?_
  refine j_iand C d_LE_makeNet_4 ?_
  refine j_iconst C d_LE_makeNet_5 ic_1 ?_
  refine j_icmp_ne C d_LE_makeNet_6 (tgt := 31) (by decide) (fun c6 => ?_) (fun c6 => ?_)
  · have h := h.1 c6
    refine j_aload_n C d_LE_makeNet_31 rfl 0 rfl ?_
    refine fg_LE_20 C g_h0 d_LE_makeNet_32 ?_
    refine j_iload_n C d_LE_makeNet_35 rfl 1 rfl ?_
    refine j_iconst C d_LE_makeNet_36 ic_1 ?_
    refine j_iadd C d_LE_makeNet_37 ?_
    obtain ⟨hi_1, h⟩ := h
    refine j_aaload C (sh_LE_2 hE g_h0) hi_1 d_LE_makeNet_38 ?_
    refine j_iconst C d_LE_makeNet_39 ic_0 ?_
    refine j_aload_n C d_LE_makeNet_40 rfl 0 rfl ?_
    refine fg_LE_20 C g_h0 d_LE_makeNet_41 ?_
    refine j_iload_n C d_LE_makeNet_44 rfl 1 rfl ?_
    obtain ⟨hi_2, h⟩ := h
    refine j_aaload C (sh_LE_2 hE g_h0) hi_2 d_LE_makeNet_45 ?_
    refine j_iconst C d_LE_makeNet_46 ic_0 ?_
    refine j_iload_n C d_LE_makeNet_47 rfl 3 rfl ?_
    obtain ⟨q1, q2, q3, q4, q5, h⟩ := h
    refine j_copy C (sr_13_12 hE (sh_LE_2 hE g_h0) hi_1) (sr_13_12 hE (sh_LE_2 hE g_h0) hi_2) w_433 w_435 w_434 w_15 q1 q2 q3 q4 q5 (by decide) (Nat.le_of_ble_eq_true rfl) d_LE_makeNet_48 ?_
    have h := h _ rfl
    generalize eI_3 : (jrow I (jw (jr h0 2) v1.toNatClampNeg) (va_cpy (I (jw (jr h0 2) (v1 + (1 : Int32)).toNatClampNeg)) (I (jw (jr h0 2) v1.toNatClampNeg)) (0 : Int32).toNatClampNeg (0 : Int32).toNatClampNeg v3.toNatClampNeg) : jM) = I_3 at h ⊢
    exact j_vret C hr d_LE_makeNet_51 h
  · have h := h.2 c6
    refine j_iload_n C d_LE_makeNet_9 rfl 1 rfl ?_
    refine j_aload_n C d_LE_makeNet_10 rfl 0 rfl ?_
    refine fg_LE_20 C g_h0 d_LE_makeNet_11 ?_
    refine j_iload_n C d_LE_makeNet_14 rfl 1 rfl ?_
    refine j_iconst C d_LE_makeNet_15 ic_1 ?_
    refine j_iadd C d_LE_makeNet_16 ?_
    obtain ⟨hi_4, h⟩ := h
    refine j_aaload C (sh_LE_2 hE g_h0) hi_4 d_LE_makeNet_17 ?_
    refine j_aload_n C d_LE_makeNet_18 rfl 0 rfl ?_
    refine fg_LE_20 C g_h0 d_LE_makeNet_19 ?_
    refine j_iload_n C d_LE_makeNet_22 rfl 1 rfl ?_
    obtain ⟨hi_5, h⟩ := h
    refine j_aaload C (sh_LE_2 hE g_h0) hi_5 d_LE_makeNet_23 ?_
    refine j_iload_n C d_LE_makeNet_24 rfl 3 rfl ?_
    refine j_callSv (As := [.int v1, .ref (E.2.2.1 (jw (jr h0 2) (v1 + (1 : Int32)).toNatClampNeg)), .ref (E.2.2.1 (jw (jr h0 2) v1.toNatClampNeg)), .int v3]) C cw_LE_47 w_431 rfl rfl (by decide) (by decide) (Nat.le_of_ble_eq_true rfl) d_LE_makeNet_25 (s_NE_copyWithout C.ok (((sr_13_12 hE (sh_LE_2 hE g_h0) hi_4)).self) (((sr_13_12 hE (sh_LE_2 hE g_h0) hi_5)).self) h) (fun I_7 h => ?_)
    refine j_goto C d_LE_makeNet_28 (tgt := 51) (by decide) ?_
    exact j_vret C hr d_LE_makeNet_51 h
theorem d_LE_weigh_0 : decode prog_4_method_4_code 0 = .ok (.sipush 576, 3) := by decide +kernel
theorem d_LE_weigh_3 : decode prog_4_method_4_code 3 = .ok (.istore_n 3, 1) := by decide +kernel
theorem d_LE_weigh_4 : decode prog_4_method_4_code 4 = .ok (.sipush 576, 3) := by decide +kernel
theorem d_LE_weigh_7 : decode prog_4_method_4_code 7 = .ok (.istore 4, 2) := by decide +kernel
theorem d_LE_weigh_9 : decode prog_4_method_4_code 9 = .ok (.iconst 0, 1) := by decide +kernel
theorem d_LE_weigh_10 : decode prog_4_method_4_code 10 = .ok (.istore 5, 2) := by decide +kernel
theorem d_LE_weigh_12 : decode prog_4_method_4_code 12 = .ok (.iload 5, 2) := by decide +kernel
theorem d_LE_weigh_14 : decode prog_4_method_4_code 14 = .ok (.iload_n 2, 1) := by decide +kernel
theorem d_LE_weigh_15 : decode prog_4_method_4_code 15 = .ok (.if_icmp .ge 74, 3) := by decide +kernel
theorem d_LE_weigh_18 : decode prog_4_method_4_code 18 = .ok (.iload_n 1, 1) := by decide +kernel
theorem d_LE_weigh_19 : decode prog_4_method_4_code 19 = .ok (.iload 5, 2) := by decide +kernel
theorem d_LE_weigh_21 : decode prog_4_method_4_code 21 = .ok (.ishr, 1) := by decide +kernel
theorem d_LE_weigh_22 : decode prog_4_method_4_code 22 = .ok (.iconst 1, 1) := by decide +kernel
theorem d_LE_weigh_23 : decode prog_4_method_4_code 23 = .ok (.iand, 1) := by decide +kernel
theorem d_LE_weigh_24 : decode prog_4_method_4_code 24 = .ok (.ifCond .ne 59, 3) := by decide +kernel
theorem d_LE_weigh_27 : decode prog_4_method_4_code 27 = .ok (.aload_n 0, 1) := by decide +kernel
theorem d_LE_weigh_28 : decode prog_4_method_4_code 28 = .ok (.getfield 20, 3) := by decide +kernel
theorem d_LE_weigh_31 : decode prog_4_method_4_code 31 = .ok (.iconst 0, 1) := by decide +kernel
theorem d_LE_weigh_32 : decode prog_4_method_4_code 32 = .ok (.aaload, 1) := by decide +kernel
theorem d_LE_weigh_33 : decode prog_4_method_4_code 33 = .ok (.iload 5, 2) := by decide +kernel
theorem d_LE_weigh_35 : decode prog_4_method_4_code 35 = .ok (.iaload, 1) := by decide +kernel
theorem d_LE_weigh_36 : decode prog_4_method_4_code 36 = .ok (.invokestatic 57, 3) := by decide +kernel
theorem d_LE_weigh_39 : decode prog_4_method_4_code 39 = .ok (.istore 6, 2) := by decide +kernel
theorem d_LE_weigh_41 : decode prog_4_method_4_code 41 = .ok (.iload_n 1, 1) := by decide +kernel
theorem d_LE_weigh_42 : decode prog_4_method_4_code 42 = .ok (.iconst 1, 1) := by decide +kernel
theorem d_LE_weigh_43 : decode prog_4_method_4_code 43 = .ok (.iload 5, 2) := by decide +kernel
theorem d_LE_weigh_45 : decode prog_4_method_4_code 45 = .ok (.ishl, 1) := by decide +kernel
theorem d_LE_weigh_46 : decode prog_4_method_4_code 46 = .ok (.ior, 1) := by decide +kernel
theorem d_LE_weigh_47 : decode prog_4_method_4_code 47 = .ok (.istore 7, 2) := by decide +kernel
theorem d_LE_weigh_49 : decode prog_4_method_4_code 49 = .ok (.iload_n 3, 1) := by decide +kernel
theorem d_LE_weigh_50 : decode prog_4_method_4_code 50 = .ok (.iload 6, 2) := by decide +kernel
theorem d_LE_weigh_52 : decode prog_4_method_4_code 52 = .ok (.aload_n 0, 1) := by decide +kernel
theorem d_LE_weigh_53 : decode prog_4_method_4_code 53 = .ok (.getfield 9, 3) := by decide +kernel
theorem d_LE_weigh_56 : decode prog_4_method_4_code 56 = .ok (.iload 7, 2) := by decide +kernel
theorem d_LE_weigh_58 : decode prog_4_method_4_code 58 = .ok (.iaload, 1) := by decide +kernel
theorem d_LE_weigh_59 : decode prog_4_method_4_code 59 = .ok (.iadd, 1) := by decide +kernel
theorem d_LE_weigh_60 : decode prog_4_method_4_code 60 = .ok (.invokestatic 63, 3) := by decide +kernel
theorem d_LE_weigh_63 : decode prog_4_method_4_code 63 = .ok (.istore_n 3, 1) := by decide +kernel
theorem d_LE_weigh_64 : decode prog_4_method_4_code 64 = .ok (.iload 4, 2) := by decide +kernel
theorem d_LE_weigh_66 : decode prog_4_method_4_code 66 = .ok (.iload 6, 2) := by decide +kernel
theorem d_LE_weigh_68 : decode prog_4_method_4_code 68 = .ok (.aload_n 0, 1) := by decide +kernel
theorem d_LE_weigh_69 : decode prog_4_method_4_code 69 = .ok (.getfield 15, 3) := by decide +kernel
theorem d_LE_weigh_72 : decode prog_4_method_4_code 72 = .ok (.iload 7, 2) := by decide +kernel
theorem d_LE_weigh_74 : decode prog_4_method_4_code 74 = .ok (.iaload, 1) := by decide +kernel
theorem d_LE_weigh_75 : decode prog_4_method_4_code 75 = .ok (.invokestatic 69, 3) := by decide +kernel
theorem d_LE_weigh_78 : decode prog_4_method_4_code 78 = .ok (.invokestatic 63, 3) := by decide +kernel
theorem d_LE_weigh_81 : decode prog_4_method_4_code 81 = .ok (.istore 4, 2) := by decide +kernel
theorem d_LE_weigh_83 : decode prog_4_method_4_code 83 = .ok (.iinc 5 1, 3) := by decide +kernel
theorem d_LE_weigh_86 : decode prog_4_method_4_code 86 = .ok (.goto (-74), 3) := by decide +kernel
theorem d_LE_weigh_89 : decode prog_4_method_4_code 89 = .ok (.iload_n 1, 1) := by decide +kernel
theorem d_LE_weigh_90 : decode prog_4_method_4_code 90 = .ok (.iconst 1, 1) := by decide +kernel
theorem d_LE_weigh_91 : decode prog_4_method_4_code 91 = .ok (.iload_n 2, 1) := by decide +kernel
theorem d_LE_weigh_92 : decode prog_4_method_4_code 92 = .ok (.ishl, 1) := by decide +kernel
theorem d_LE_weigh_93 : decode prog_4_method_4_code 93 = .ok (.iconst 1, 1) := by decide +kernel
theorem d_LE_weigh_94 : decode prog_4_method_4_code 94 = .ok (.isub, 1) := by decide +kernel
theorem d_LE_weigh_95 : decode prog_4_method_4_code 95 = .ok (.if_icmp .ne 7, 3) := by decide +kernel
theorem d_LE_weigh_98 : decode prog_4_method_4_code 98 = .ok (.iconst 1, 1) := by decide +kernel
theorem d_LE_weigh_99 : decode prog_4_method_4_code 99 = .ok (.goto 4, 3) := by decide +kernel
theorem d_LE_weigh_102 : decode prog_4_method_4_code 102 = .ok (.iconst 0, 1) := by decide +kernel
theorem d_LE_weigh_103 : decode prog_4_method_4_code 103 = .ok (.istore 5, 2) := by decide +kernel
theorem d_LE_weigh_105 : decode prog_4_method_4_code 105 = .ok (.aload_n 0, 1) := by decide +kernel
theorem d_LE_weigh_106 : decode prog_4_method_4_code 106 = .ok (.getfield 9, 3) := by decide +kernel
theorem d_LE_weigh_109 : decode prog_4_method_4_code 109 = .ok (.iload_n 1, 1) := by decide +kernel
theorem d_LE_weigh_110 : decode prog_4_method_4_code 110 = .ok (.iload 5, 2) := by decide +kernel
theorem d_LE_weigh_112 : decode prog_4_method_4_code 112 = .ok (.ifCond .eq 7, 3) := by decide +kernel
theorem d_LE_weigh_115 : decode prog_4_method_4_code 115 = .ok (.iconst 0, 1) := by decide +kernel
theorem d_LE_weigh_116 : decode prog_4_method_4_code 116 = .ok (.goto 4, 3) := by decide +kernel
theorem d_LE_weigh_119 : decode prog_4_method_4_code 119 = .ok (.iload_n 3, 1) := by decide +kernel
theorem d_LE_weigh_120 : decode prog_4_method_4_code 120 = .ok (.iastore, 1) := by decide +kernel
theorem d_LE_weigh_121 : decode prog_4_method_4_code 121 = .ok (.aload_n 0, 1) := by decide +kernel
theorem d_LE_weigh_122 : decode prog_4_method_4_code 122 = .ok (.getfield 15, 3) := by decide +kernel
theorem d_LE_weigh_125 : decode prog_4_method_4_code 125 = .ok (.iload_n 1, 1) := by decide +kernel
theorem d_LE_weigh_126 : decode prog_4_method_4_code 126 = .ok (.iload 5, 2) := by decide +kernel
theorem d_LE_weigh_128 : decode prog_4_method_4_code 128 = .ok (.ifCond .eq 7, 3) := by decide +kernel
theorem d_LE_weigh_131 : decode prog_4_method_4_code 131 = .ok (.iconst 0, 1) := by decide +kernel
theorem d_LE_weigh_132 : decode prog_4_method_4_code 132 = .ok (.goto 5, 3) := by decide +kernel
theorem d_LE_weigh_135 : decode prog_4_method_4_code 135 = .ok (.iload 4, 2) := by decide +kernel
theorem d_LE_weigh_137 : decode prog_4_method_4_code 137 = .ok (.iastore, 1) := by decide +kernel
theorem d_LE_weigh_138 : decode prog_4_method_4_code 138 = .ok (.return_, 1) := by decide +kernel
def LE_weigh_120 (h0 : Nat) (v1 : Int32) (v4 : Int32) (v5 : Int32) (r0 : Nat) (s1 : Int32) (s2 : Int32) (I : jM) (K : jM → Prop) : Prop :=
  (vp_in s1 4096 ∧ (∀ I_1 : jM, I_1 = jwr I r0 s1.toNatClampNeg s2 → ((v5 = 0 → (vp_in v1 4096 ∧ (∀ I_2 : jM, I_2 = jwr I_1 (jr h0 1) v1.toNatClampNeg v4 → K I_2))) ∧ (¬ v5 = 0 → (vp_in v1 4096 ∧ (∀ I_3 : jM, I_3 = jwr I_1 (jr h0 1) v1.toNatClampNeg (0 : Int32) → K I_3))))))
set_option maxRecDepth 100000 in
set_option maxHeartbeats 4000000 in
theorem k_LE_weigh_120 {Z : jZ} {E : jE} (C : jC Z E prog_4_method_4_code 8 "OutOrder$Least" 1 21) (hr : (jZh Z).sig.returnType = none) (hE : E.2.2.2 = jLX)  (h0 : Nat) (v1 : Int32) (v4 : Int32) (v5 : Int32) (r0 : Nat) (s1 : Int32) (s2 : Int32) (I : jM) (g_h0 : jOB E 2 h0) (g_r0 : jAI E 4096 r0) {K : jM → Prop} (h : LE_weigh_120 h0 v1 v4 v5 r0 s1 s2 I K) : jJ Z E 8 (jQv Z E K) 120 [(0, .ref (E.2.2.1 h0)), (1, .int v1), (4, .int v4), (5, .int v5)] [.int s2, .int s1, .ref (E.2.2.1 r0)] I := by
  unfold LE_weigh_120 at h
  obtain ⟨hi, h⟩ := h
  refine j_iastore C g_r0 hi d_LE_weigh_120 ?_
  have h := h _ rfl
  generalize eI_1 : (jwr I r0 s1.toNatClampNeg s2 : jM) = I_1 at h ⊢
  refine j_aload_n C d_LE_weigh_121 rfl 0 rfl ?_
  refine fg_LE_15 C g_h0 d_LE_weigh_122 ?_
  refine j_iload_n C d_LE_weigh_125 rfl 1 rfl ?_
  refine j_iload C d_LE_weigh_126 3 rfl ?_
  refine j_if_eq C d_LE_weigh_128 (tgt := 135) (by decide) (fun c128 => ?_) (fun c128 => ?_)
  · have h := h.1 c128
    refine j_iload C d_LE_weigh_135 2 rfl ?_
    obtain ⟨hi, h⟩ := h
    refine j_iastore C (sh_LE_1 hE g_h0) hi d_LE_weigh_137 ?_
    have h := h _ rfl
    generalize eI_2 : (jwr I_1 (jr h0 1) v1.toNatClampNeg v4 : jM) = I_2 at h ⊢
    exact j_vret C hr d_LE_weigh_138 h
  · have h := h.2 c128
    refine j_iconst C d_LE_weigh_131 ic_0 ?_
    refine j_goto C d_LE_weigh_132 (tgt := 137) (by decide) ?_
    obtain ⟨hi, h⟩ := h
    refine j_iastore C (sh_LE_1 hE g_h0) hi d_LE_weigh_137 ?_
    have h := h _ rfl
    generalize eI_3 : (jwr I_1 (jr h0 1) v1.toNatClampNeg (0 : Int32) : jM) = I_3 at h ⊢
    exact j_vret C hr d_LE_weigh_138 h
def LE_weigh_103 (h0 : Nat) (v1 : Int32) (v3 : Int32) (v4 : Int32) (s0 : Int32) (I : jM) (K : jM → Prop) : Prop :=
  ((s0 = 0 → LE_weigh_120 h0 v1 v4 s0 (jr h0 0) v1 v3 I K) ∧ (¬ s0 = 0 → LE_weigh_120 h0 v1 v4 s0 (jr h0 0) v1 (0 : Int32) I K))
set_option maxRecDepth 100000 in
set_option maxHeartbeats 4000000 in
theorem k_LE_weigh_103 {Z : jZ} {E : jE} (C : jC Z E prog_4_method_4_code 8 "OutOrder$Least" 1 21) (hr : (jZh Z).sig.returnType = none) (hE : E.2.2.2 = jLX)  (h0 : Nat) (v1 : Int32) (v3 : Int32) (v4 : Int32) (s0 : Int32) (I : jM) (g_h0 : jOB E 2 h0) {K : jM → Prop} (h : LE_weigh_103 h0 v1 v3 v4 s0 I K) : jJ Z E 8 (jQv Z E K) 103 [(0, .ref (E.2.2.1 h0)), (1, .int v1), (3, .int v3), (4, .int v4)] [.int s0] I := by
  unfold LE_weigh_103 at h
  refine j_istore C d_LE_weigh_103 (by decide) (lv' := [(5, .int s0), (0, .ref (E.2.2.1 h0)), (1, .int v1), (3, .int v3), (4, .int v4)]) rfl ?_
  refine j_aload_n C d_LE_weigh_105 rfl 1 rfl ?_
  refine fg_LE_9 C g_h0 d_LE_weigh_106 ?_
  refine j_iload_n C d_LE_weigh_109 rfl 2 rfl ?_
  refine j_iload C d_LE_weigh_110 0 rfl ?_
  refine j_if_eq C d_LE_weigh_112 (tgt := 119) (by decide) (fun c112 => ?_) (fun c112 => ?_)
  · have h := h.1 c112
    refine j_iload_n C d_LE_weigh_119 rfl 3 rfl ?_
    refine j_lv [1, 2, 4, 0] rfl ?_
    exact k_LE_weigh_120 C hr hE h0 v1 v4 s0 (jr h0 0) v1 v3 I g_h0 (sh_LE_0 hE g_h0) h
  · have h := h.2 c112
    refine j_iconst C d_LE_weigh_115 ic_0 ?_
    refine j_goto C d_LE_weigh_116 (tgt := 120) (by decide) ?_
    refine j_lv [1, 2, 4, 0] rfl ?_
    exact k_LE_weigh_120 C hr hE h0 v1 v4 s0 (jr h0 0) v1 (0 : Int32) I g_h0 (sh_LE_0 hE g_h0) h
def LE_weigh_12b (h0 : Nat) (v1 : Int32) (v2 : Int32) (v3 : Int32) (v4 : Int32) (v5 : Int32) (I : jM) (K : jM → Prop) (X12 : Int32 × Int32 × Int32 → Prop) : Prop :=
  ((v2 ≤ v5 → ((¬ v1 = (((1 : Int32) <<< (v2 &&& 31)) - (1 : Int32)) → LE_weigh_103 h0 v1 v3 v4 (0 : Int32) I K) ∧ (v1 = (((1 : Int32) <<< (v2 &&& 31)) - (1 : Int32)) → LE_weigh_103 h0 v1 v3 v4 (1 : Int32) I K))) ∧ (¬ v2 ≤ v5 → ((¬ ((v1 >>> (v5 &&& 31)) &&& (1 : Int32)) = 0 → X12 (v3, v4, (v5 + 1))) ∧ (((v1 >>> (v5 &&& 31)) &&& (1 : Int32)) = 0 → (vp_in (0 : Int32) 13 ∧ (vp_in v5 12 ∧ JI_bitCount (I (jw (jr h0 2) (0 : Int32).toNatClampNeg) v5.toNatClampNeg) I (fun r_2 => (∀ v7_3 : Int32, v7_3 = (v1 ||| ((1 : Int32) <<< (v5 &&& 31))) → (vp_in v7_3 4096 ∧ JM_min v3 (r_2 + (I (jr h0 0) v7_3.toNatClampNeg)) I (fun r_4 => (vp_in v7_3 4096 ∧ JM_max r_2 (I (jr h0 1) v7_3.toNatClampNeg) I (fun r_5 => JM_min v4 r_5 I (fun r_6 => X12 (r_4, r_6, (v5 + 1)))))))))))))))
def LE_weigh_12 (h0 : Nat) (v1 : Int32) (v2 : Int32) (v3 : Int32) (v4 : Int32) (v5 : Int32) (I : jM) (K : jM → Prop) : Prop :=
  lp (fun (X12 : Int32 × Int32 × Int32 → Prop) (s : Int32 × Int32 × Int32) => LE_weigh_12b h0 v1 v2 s.1 s.2.1 s.2.2 I K X12) (v3, v4, v5)
set_option maxRecDepth 100000 in
set_option maxHeartbeats 4000000 in
theorem kb_LE_weigh_12 {Z : jZ} {E : jE} (C : jC Z E prog_4_method_4_code 8 "OutOrder$Least" 1 21) (hr : (jZh Z).sig.returnType = none) (hE : E.2.2.2 = jLX)  (h0 : Nat) (v1 : Int32) (v2 : Int32) (v3 : Int32) (v4 : Int32) (v5 : Int32) (I : jM) (g_h0 : jOB E 2 h0) {K : jM → Prop} {X12 : Int32 × Int32 × Int32 → Prop} (hX12 : ∀ s : Int32 × Int32 × Int32, X12 s → jJ Z E 8 (jQv Z E K) 12 [(0, .ref (E.2.2.1 h0)), (1, .int v1), (2, .int v2), (3, .int s.1), (4, .int s.2.1), (5, .int s.2.2)] [] I) (h : LE_weigh_12b h0 v1 v2 v3 v4 v5 I K X12) : jJ Z E 8 (jQv Z E K) 12 [(0, .ref (E.2.2.1 h0)), (1, .int v1), (2, .int v2), (3, .int v3), (4, .int v4), (5, .int v5)] [] I := by
  unfold LE_weigh_12b at h
  refine j_iload C d_LE_weigh_12 5 rfl ?_
  refine j_iload_n C d_LE_weigh_14 rfl 2 rfl ?_
  refine j_icmp_ge C d_LE_weigh_15 (tgt := 89) (by decide) (fun c15 => ?_) (fun c15 => ?_)
  · have h := h.1 c15
    refine j_iload_n C d_LE_weigh_89 rfl 1 rfl ?_
    refine j_iconst C d_LE_weigh_90 ic_1 ?_
    refine j_iload_n C d_LE_weigh_91 rfl 2 rfl ?_
    refine j_ishl C d_LE_weigh_92 ?_
    refine j_iconst C d_LE_weigh_93 ic_1 ?_
    refine j_isub C d_LE_weigh_94 ?_
    refine j_icmp_ne C d_LE_weigh_95 (tgt := 102) (by decide) (fun c95 => ?_) (fun c95 => ?_)
    · have h := h.1 c95
      refine j_iconst C d_LE_weigh_102 ic_0 ?_
      refine j_lv [0, 1, 3, 4] rfl ?_
      exact k_LE_weigh_103 C hr hE h0 v1 v3 v4 (0 : Int32) I g_h0 h
    · have h := h.2 c95
      refine j_iconst C d_LE_weigh_98 ic_1 ?_
      refine j_goto C d_LE_weigh_99 (tgt := 103) (by decide) ?_
      refine j_lv [0, 1, 3, 4] rfl ?_
      exact k_LE_weigh_103 C hr hE h0 v1 v3 v4 (1 : Int32) I g_h0 h
  · have h := h.2 c15
    refine j_iload_n C d_LE_weigh_18 rfl 1 rfl ?_
    refine j_iload C d_LE_weigh_19 5 rfl ?_
    refine j_ishr C d_LE_weigh_21 ?_
    refine j_iconst C d_LE_weigh_22 ic_1 ?_
    refine j_iand C d_LE_weigh_23 ?_
    refine j_if_ne C d_LE_weigh_24 (tgt := 83) (by decide) (fun c24 => ?_) (fun c24 => ?_)
    · have h := h.1 c24
      refine j_iinc C d_LE_weigh_83 5 rfl (v := (v5 + 1)) rfl (by decide) (lv' := [(5, .int (v5 + 1)), (0, .ref (E.2.2.1 h0)), (1, .int v1), (2, .int v2), (3, .int v3), (4, .int v4)]) rfl ?_
      refine j_goto C d_LE_weigh_86 (tgt := 12) (by decide) ?_
      refine j_lv [1, 2, 3, 4, 5, 0] rfl ?_
      exact hX12 (v3, v4, (v5 + 1)) h
    · have h := h.2 c24
      refine j_aload_n C d_LE_weigh_27 rfl 0 rfl ?_
      refine fg_LE_20 C g_h0 d_LE_weigh_28 ?_
      refine j_iconst C d_LE_weigh_31 ic_0 ?_
      obtain ⟨hi_1, h⟩ := h
      refine j_aaload C (sh_LE_2 hE g_h0) hi_1 d_LE_weigh_32 ?_
      refine j_iload C d_LE_weigh_33 5 rfl ?_
      obtain ⟨hi, h⟩ := h
      refine j_iaload C (sr_13_12 hE (sh_LE_2 hE g_h0) hi_1) hi d_LE_weigh_35 ?_
      refine j_callSi (As := [.int (I (jw (jr h0 2) (0 : Int32).toNatClampNeg) v5.toNatClampNeg)]) C cw_LE_57 w_412 rfl rfl (by decide) (by decide) (Nat.le_of_ble_eq_true rfl) d_LE_weigh_36 (s_JI_bitCount C.ok  h) (fun r_2 I2 h => ?_)
      obtain ⟨rfl, h⟩ := h
      refine j_istore C d_LE_weigh_39 (by decide) (lv' := [(6, .int r_2), (0, .ref (E.2.2.1 h0)), (1, .int v1), (2, .int v2), (3, .int v3), (4, .int v4), (5, .int v5)]) rfl ?_
      refine j_iload_n C d_LE_weigh_41 rfl 2 rfl ?_
      refine j_iconst C d_LE_weigh_42 ic_1 ?_
      refine j_iload C d_LE_weigh_43 6 rfl ?_
      refine j_ishl C d_LE_weigh_45 ?_
      refine j_ior C d_LE_weigh_46 ?_
      refine j_topi (fun v7_3 ev7_3 => ?_)
      have h := h v7_3 ev7_3
      refine j_istore C d_LE_weigh_47 (by decide) (lv' := [(7, .int v7_3), (6, .int r_2), (0, .ref (E.2.2.1 h0)), (1, .int v1), (2, .int v2), (3, .int v3), (4, .int v4), (5, .int v5)]) rfl ?_
      refine j_iload_n C d_LE_weigh_49 rfl 5 rfl ?_
      refine j_iload C d_LE_weigh_50 1 rfl ?_
      refine j_aload_n C d_LE_weigh_52 rfl 2 rfl ?_
      refine fg_LE_9 C g_h0 d_LE_weigh_53 ?_
      refine j_iload C d_LE_weigh_56 0 rfl ?_
      obtain ⟨hi, h⟩ := h
      refine j_iaload C (sh_LE_0 hE g_h0) hi d_LE_weigh_58 ?_
      refine j_iadd C d_LE_weigh_59 ?_
      refine j_callSi (As := [.int v3, .int (r_2 + (I (jr h0 0) v7_3.toNatClampNeg))]) C cw_LE_63 w_442 rfl rfl (by decide) (by decide) (Nat.le_of_ble_eq_true rfl) d_LE_weigh_60 (s_JM_min C.ok  h) (fun r_4 I2 h => ?_)
      obtain ⟨rfl, h⟩ := h
      refine j_istore_n C d_LE_weigh_63 rfl (by decide) (lv' := [(3, .int r_4), (7, .int v7_3), (6, .int r_2), (0, .ref (E.2.2.1 h0)), (1, .int v1), (2, .int v2), (4, .int v4), (5, .int v5)]) rfl ?_
      refine j_iload C d_LE_weigh_64 6 rfl ?_
      refine j_iload C d_LE_weigh_66 2 rfl ?_
      refine j_aload_n C d_LE_weigh_68 rfl 3 rfl ?_
      refine fg_LE_15 C g_h0 d_LE_weigh_69 ?_
      refine j_iload C d_LE_weigh_72 1 rfl ?_
      obtain ⟨hi, h⟩ := h
      refine j_iaload C (sh_LE_1 hE g_h0) hi d_LE_weigh_74 ?_
      refine j_callSi (As := [.int r_2, .int (I (jr h0 1) v7_3.toNatClampNeg)]) C cw_LE_69 w_445 rfl rfl (by decide) (by decide) (Nat.le_of_ble_eq_true rfl) d_LE_weigh_75 (s_JM_max C.ok  h) (fun r_5 I2 h => ?_)
      obtain ⟨rfl, h⟩ := h
      refine j_callSi (As := [.int v4, .int r_5]) C cw_LE_63 w_442 rfl rfl (by decide) (by decide) (Nat.le_of_ble_eq_true rfl) d_LE_weigh_78 (s_JM_min C.ok  h) (fun r_6 I2 h => ?_)
      obtain ⟨rfl, h⟩ := h
      refine j_istore C d_LE_weigh_81 (by decide) (lv' := [(4, .int r_6), (3, .int r_4), (7, .int v7_3), (6, .int r_2), (0, .ref (E.2.2.1 h0)), (1, .int v1), (2, .int v2), (5, .int v5)]) rfl ?_
      refine j_iinc C d_LE_weigh_83 7 rfl (v := (v5 + 1)) rfl (by decide) (lv' := [(5, .int (v5 + 1)), (4, .int r_6), (3, .int r_4), (7, .int v7_3), (6, .int r_2), (0, .ref (E.2.2.1 h0)), (1, .int v1), (2, .int v2)]) rfl ?_
      refine j_goto C d_LE_weigh_86 (tgt := 12) (by decide) ?_
      refine j_lv [5, 6, 7, 2, 1, 0] rfl ?_
      exact hX12 (r_4, r_6, (v5 + 1)) h
theorem k_LE_weigh_12 {Z : jZ} {E : jE} (C : jC Z E prog_4_method_4_code 8 "OutOrder$Least" 1 21) (hr : (jZh Z).sig.returnType = none) (hE : E.2.2.2 = jLX)  (h0 : Nat) (v1 : Int32) (v2 : Int32) (v3 : Int32) (v4 : Int32) (v5 : Int32) (I : jM) (g_h0 : jOB E 2 h0) {K : jM → Prop} (h : LE_weigh_12 h0 v1 v2 v3 v4 v5 I K) : jJ Z E 8 (jQv Z E K) 12 [(0, .ref (E.2.2.1 h0)), (1, .int v1), (2, .int v2), (3, .int v3), (4, .int v4), (5, .int v5)] [] I := by
  unfold LE_weigh_12 at h
  exact h (fun s => jJ Z E 8 (jQv Z E K) 12 [(0, .ref (E.2.2.1 h0)), (1, .int v1), (2, .int v2), (3, .int s.1), (4, .int s.2.1), (5, .int s.2.2)] [] I) (fun s hs => kb_LE_weigh_12 C hr hE h0 v1 v2 s.1 s.2.1 s.2.2 I g_h0 (fun s2 h2 => h2) hs)
/-- OutOrder$Least.weigh(II)V -/
def LE_weigh (h0 : Nat) (v1 : Int32) (v2 : Int32) (I : jM) (K : jM → Prop) : Prop :=
  LE_weigh_12 h0 v1 v2 (576 : Int32) (576 : Int32) (0 : Int32) I K
set_option maxRecDepth 100000 in
set_option maxHeartbeats 4000000 in
theorem s_LE_weigh {l : Launch} {E : jE} (ok : jOK E) (hE : E.2.2.2 = jLX) {h0 : Nat} {v1 : Int32} {v2 : Int32} (g_h0 : jOB E 2 h0) {I : jM} {K : jM → Prop} (h : LE_weigh h0 v1 v2 I K) : jSv l E ⟨"OutOrder$Least", "weigh", "(II)V"⟩ prog_4_method_4_code 8 none 1 21 [.ref (E.2.2.1 h0), .int v1, .int v2] I K := by
  refine jS_ofF (own := "OutOrder$Least") (by decide +kernel) rfl ok (Nat.le_of_ble_eq_true rfl) (fun Z _ C hr => ?_)
  show jJ Z E 8 (jQv Z E K) 0 [(0, .ref (E.2.2.1 h0)), (1, .int v1), (2, .int v2)] [] I
  unfold LE_weigh at h
  refine j_sipush C d_LE_weigh_0 is_576 ?_
  refine j_istore_n C d_LE_weigh_3 rfl (by decide) (lv' := [(3, .int (576 : Int32)), (0, .ref (E.2.2.1 h0)), (1, .int v1), (2, .int v2)]) rfl ?_
  refine j_sipush C d_LE_weigh_4 is_576 ?_
  refine j_istore C d_LE_weigh_7 (by decide) (lv' := [(4, .int (576 : Int32)), (3, .int (576 : Int32)), (0, .ref (E.2.2.1 h0)), (1, .int v1), (2, .int v2)]) rfl ?_
  refine j_iconst C d_LE_weigh_9 ic_0 ?_
  refine j_istore C d_LE_weigh_10 (by decide) (lv' := [(5, .int (0 : Int32)), (4, .int (576 : Int32)), (3, .int (576 : Int32)), (0, .ref (E.2.2.1 h0)), (1, .int v1), (2, .int v2)]) rfl ?_
  refine j_lv [3, 4, 5, 2, 1, 0] rfl ?_
  exact k_LE_weigh_12 C hr hE h0 v1 v2 (576 : Int32) (576 : Int32) (0 : Int32) I g_h0 h
theorem d_LE_reckon_0 : decode prog_4_method_2_code 0 = .ok (.aload_n 1, 1) := by decide +kernel
theorem d_LE_reckon_1 : decode prog_4_method_2_code 1 = .ok (.getfield 30, 3) := by decide +kernel
theorem d_LE_reckon_4 : decode prog_4_method_2_code 4 = .ok (.istore_n 2, 1) := by decide +kernel
theorem d_LE_reckon_5 : decode prog_4_method_2_code 5 = .ok (.iload_n 2, 1) := by decide +kernel
theorem d_LE_reckon_6 : decode prog_4_method_2_code 6 = .ok (.bipush 12, 2) := by decide +kernel
theorem d_LE_reckon_8 : decode prog_4_method_2_code 8 = .ok (.if_icmp .le 4, 3) := by decide +kernel
theorem d_LE_reckon_11 : decode prog_4_method_2_code 11 = .ok (.return_, 1) := by decide +kernel
theorem d_LE_reckon_12 : decode prog_4_method_2_code 12 = .ok (.iconst 0, 1) := by decide +kernel
theorem d_LE_reckon_13 : decode prog_4_method_2_code 13 = .ok (.istore_n 3, 1) := by decide +kernel
theorem d_LE_reckon_14 : decode prog_4_method_2_code 14 = .ok (.iload_n 3, 1) := by decide +kernel
theorem d_LE_reckon_15 : decode prog_4_method_2_code 15 = .ok (.iload_n 2, 1) := by decide +kernel
theorem d_LE_reckon_16 : decode prog_4_method_2_code 16 = .ok (.if_icmp .ge 23, 3) := by decide +kernel
theorem d_LE_reckon_19 : decode prog_4_method_2_code 19 = .ok (.aload_n 0, 1) := by decide +kernel
theorem d_LE_reckon_20 : decode prog_4_method_2_code 20 = .ok (.getfield 20, 3) := by decide +kernel
theorem d_LE_reckon_23 : decode prog_4_method_2_code 23 = .ok (.iload_n 2, 1) := by decide +kernel
theorem d_LE_reckon_24 : decode prog_4_method_2_code 24 = .ok (.aaload, 1) := by decide +kernel
theorem d_LE_reckon_25 : decode prog_4_method_2_code 25 = .ok (.iload_n 3, 1) := by decide +kernel
theorem d_LE_reckon_26 : decode prog_4_method_2_code 26 = .ok (.aload_n 1, 1) := by decide +kernel
theorem d_LE_reckon_27 : decode prog_4_method_2_code 27 = .ok (.getfield 36, 3) := by decide +kernel
theorem d_LE_reckon_30 : decode prog_4_method_2_code 30 = .ok (.iload_n 3, 1) := by decide +kernel
theorem d_LE_reckon_31 : decode prog_4_method_2_code 31 = .ok (.iaload, 1) := by decide +kernel
theorem d_LE_reckon_32 : decode prog_4_method_2_code 32 = .ok (.iastore, 1) := by decide +kernel
theorem d_LE_reckon_33 : decode prog_4_method_2_code 33 = .ok (.iinc 3 1, 3) := by decide +kernel
theorem d_LE_reckon_36 : decode prog_4_method_2_code 36 = .ok (.goto (-22), 3) := by decide +kernel
theorem d_LE_reckon_39 : decode prog_4_method_2_code 39 = .ok (.iconst 1, 1) := by decide +kernel
theorem d_LE_reckon_40 : decode prog_4_method_2_code 40 = .ok (.iload_n 2, 1) := by decide +kernel
theorem d_LE_reckon_41 : decode prog_4_method_2_code 41 = .ok (.ishl, 1) := by decide +kernel
theorem d_LE_reckon_42 : decode prog_4_method_2_code 42 = .ok (.iconst 1, 1) := by decide +kernel
theorem d_LE_reckon_43 : decode prog_4_method_2_code 43 = .ok (.isub, 1) := by decide +kernel
theorem d_LE_reckon_44 : decode prog_4_method_2_code 44 = .ok (.istore_n 3, 1) := by decide +kernel
theorem d_LE_reckon_45 : decode prog_4_method_2_code 45 = .ok (.iload_n 3, 1) := by decide +kernel
theorem d_LE_reckon_46 : decode prog_4_method_2_code 46 = .ok (.istore 4, 2) := by decide +kernel
theorem d_LE_reckon_48 : decode prog_4_method_2_code 48 = .ok (.iload 4, 2) := by decide +kernel
theorem d_LE_reckon_50 : decode prog_4_method_2_code 50 = .ok (.ifCond .lt 68, 3) := by decide +kernel
theorem d_LE_reckon_53 : decode prog_4_method_2_code 53 = .ok (.iload 4, 2) := by decide +kernel
theorem d_LE_reckon_55 : decode prog_4_method_2_code 55 = .ok (.iload_n 3, 1) := by decide +kernel
theorem d_LE_reckon_56 : decode prog_4_method_2_code 56 = .ok (.if_icmp .ne 7, 3) := by decide +kernel
theorem d_LE_reckon_59 : decode prog_4_method_2_code 59 = .ok (.iload_n 3, 1) := by decide +kernel
theorem d_LE_reckon_60 : decode prog_4_method_2_code 60 = .ok (.goto 10, 3) := by decide +kernel
theorem d_LE_reckon_63 : decode prog_4_method_2_code 63 = .ok (.iload 4, 2) := by decide +kernel
theorem d_LE_reckon_65 : decode prog_4_method_2_code 65 = .ok (.iload 4, 2) := by decide +kernel
theorem d_LE_reckon_67 : decode prog_4_method_2_code 67 = .ok (.iconst 1, 1) := by decide +kernel
theorem d_LE_reckon_68 : decode prog_4_method_2_code 68 = .ok (.iadd, 1) := by decide +kernel
theorem d_LE_reckon_69 : decode prog_4_method_2_code 69 = .ok (.ixor, 1) := by decide +kernel
theorem d_LE_reckon_70 : decode prog_4_method_2_code 70 = .ok (.istore 5, 2) := by decide +kernel
theorem d_LE_reckon_72 : decode prog_4_method_2_code 72 = .ok (.iload_n 2, 1) := by decide +kernel
theorem d_LE_reckon_73 : decode prog_4_method_2_code 73 = .ok (.iconst 1, 1) := by decide +kernel
theorem d_LE_reckon_74 : decode prog_4_method_2_code 74 = .ok (.isub, 1) := by decide +kernel
theorem d_LE_reckon_75 : decode prog_4_method_2_code 75 = .ok (.istore 6, 2) := by decide +kernel
theorem d_LE_reckon_77 : decode prog_4_method_2_code 77 = .ok (.iload 6, 2) := by decide +kernel
theorem d_LE_reckon_79 : decode prog_4_method_2_code 79 = .ok (.ifCond .lt 26, 3) := by decide +kernel
theorem d_LE_reckon_82 : decode prog_4_method_2_code 82 = .ok (.iload 5, 2) := by decide +kernel
theorem d_LE_reckon_84 : decode prog_4_method_2_code 84 = .ok (.iload 6, 2) := by decide +kernel
theorem d_LE_reckon_86 : decode prog_4_method_2_code 86 = .ok (.ishr, 1) := by decide +kernel
theorem d_LE_reckon_87 : decode prog_4_method_2_code 87 = .ok (.ifCond .eq 12, 3) := by decide +kernel
theorem d_LE_reckon_90 : decode prog_4_method_2_code 90 = .ok (.aload_n 0, 1) := by decide +kernel
theorem d_LE_reckon_91 : decode prog_4_method_2_code 91 = .ok (.iload 6, 2) := by decide +kernel
theorem d_LE_reckon_93 : decode prog_4_method_2_code 93 = .ok (.iload 4, 2) := by decide +kernel
theorem d_LE_reckon_95 : decode prog_4_method_2_code 95 = .ok (.iload_n 2, 1) := by decide +kernel
theorem d_LE_reckon_96 : decode prog_4_method_2_code 96 = .ok (.invokevirtual 39, 3) := by decide +kernel
theorem d_LE_reckon_99 : decode prog_4_method_2_code 99 = .ok (.iinc 6 (-1), 3) := by decide +kernel
theorem d_LE_reckon_102 : decode prog_4_method_2_code 102 = .ok (.goto (-25), 3) := by decide +kernel
theorem d_LE_reckon_105 : decode prog_4_method_2_code 105 = .ok (.aload_n 0, 1) := by decide +kernel
theorem d_LE_reckon_106 : decode prog_4_method_2_code 106 = .ok (.iload 4, 2) := by decide +kernel
theorem d_LE_reckon_108 : decode prog_4_method_2_code 108 = .ok (.iload_n 2, 1) := by decide +kernel
theorem d_LE_reckon_109 : decode prog_4_method_2_code 109 = .ok (.invokevirtual 43, 3) := by decide +kernel
theorem d_LE_reckon_112 : decode prog_4_method_2_code 112 = .ok (.iinc 4 (-1), 3) := by decide +kernel
theorem d_LE_reckon_115 : decode prog_4_method_2_code 115 = .ok (.goto (-67), 3) := by decide +kernel
theorem d_LE_reckon_118 : decode prog_4_method_2_code 118 = .ok (.return_, 1) := by decide +kernel
def LE_reckon_77b (h0 : Nat) (v2 : Int32) (v3 : Int32) (v4 : Int32) (v5 : Int32) (v6 : Int32) (I : jM) (K : jM → Prop) (X48 : Int32 × jM → Prop) (X77 : Int32 × jM → Prop) : Prop :=
  ((v6 < 0 → LE_weigh h0 v4 v2 I (fun I_2 => X48 ((v4 + (-1)), I_2))) ∧ (¬ v6 < 0 → (((v5 >>> (v6 &&& 31)) = 0 → X77 ((v6 + (-1)), I)) ∧ (¬ (v5 >>> (v6 &&& 31)) = 0 → LE_makeNet h0 v6 v4 v2 I (fun I_4 => X77 ((v6 + (-1)), I_4))))))
def LE_reckon_77 (h0 : Nat) (v2 : Int32) (v3 : Int32) (v4 : Int32) (v5 : Int32) (v6 : Int32) (I : jM) (K : jM → Prop) (X48 : Int32 × jM → Prop) : Prop :=
  lp (fun (X77 : Int32 × jM → Prop) (s : Int32 × jM) => LE_reckon_77b h0 v2 v3 v4 v5 s.1 s.2 K X48 X77) (v6, I)
set_option maxRecDepth 100000 in
set_option maxHeartbeats 4000000 in
theorem kb_LE_reckon_77 {Z : jZ} {E : jE} (C : jC Z E prog_4_method_2_code 7 "OutOrder$Least" 2 49) (hr : (jZh Z).sig.returnType = none) (hE : E.2.2.2 = jLX)  (h0 : Nat) (v2 : Int32) (v3 : Int32) (v4 : Int32) (v5 : Int32) (v6 : Int32) (I : jM) (g_h0 : jOB E 2 h0) {K : jM → Prop} {X48 : Int32 × jM → Prop} (hX48 : ∀ s : Int32 × jM, X48 s → jJ Z E 7 (jQv Z E K) 48 [(0, .ref (E.2.2.1 h0)), (2, .int v2), (3, .int v3), (4, .int s.1)] [] s.2) {X77 : Int32 × jM → Prop} (hX77 : ∀ s : Int32 × jM, X77 s → jJ Z E 7 (jQv Z E K) 77 [(0, .ref (E.2.2.1 h0)), (2, .int v2), (3, .int v3), (4, .int v4), (5, .int v5), (6, .int s.1)] [] s.2) (h : LE_reckon_77b h0 v2 v3 v4 v5 v6 I K X48 X77) : jJ Z E 7 (jQv Z E K) 77 [(0, .ref (E.2.2.1 h0)), (2, .int v2), (3, .int v3), (4, .int v4), (5, .int v5), (6, .int v6)] [] I := by
  unfold LE_reckon_77b at h
  refine j_iload C d_LE_reckon_77 5 rfl ?_
  refine j_if_lt C d_LE_reckon_79 (tgt := 105) (by decide) (fun c79 => ?_) (fun c79 => ?_)
  · have h := h.1 c79
    refine j_aload_n C d_LE_reckon_105 rfl 0 rfl ?_
    refine j_iload C d_LE_reckon_106 3 rfl ?_
    refine j_iload_n C d_LE_reckon_108 rfl 1 rfl ?_
    refine j_callVv (As := [.int v4, .int v2]) C jcl_LE cw_LE_43 w_438 ws_8 g_h0 rfl rfl (by decide) (by decide) (Nat.le_of_ble_eq_true rfl) d_LE_reckon_109 (s_LE_weigh C.ok hE g_h0 h) (fun I_2 h => ?_)
    refine j_iinc C d_LE_reckon_112 3 rfl (v := (v4 + (-1))) rfl (by decide) (lv' := [(4, .int (v4 + (-1))), (0, .ref (E.2.2.1 h0)), (2, .int v2), (3, .int v3), (5, .int v5), (6, .int v6)]) rfl ?_
    refine j_goto C d_LE_reckon_115 (tgt := 48) (by decide) ?_
    refine j_lv [1, 2, 3, 0] rfl ?_
    exact hX48 ((v4 + (-1)), I_2) h
  · have h := h.2 c79
    refine j_iload C d_LE_reckon_82 4 rfl ?_
    refine j_iload C d_LE_reckon_84 5 rfl ?_
    refine j_ishr C d_LE_reckon_86 ?_
    refine j_if_eq C d_LE_reckon_87 (tgt := 99) (by decide) (fun c87 => ?_) (fun c87 => ?_)
    · have h := h.1 c87
      refine j_iinc C d_LE_reckon_99 5 rfl (v := (v6 + (-1))) rfl (by decide) (lv' := [(6, .int (v6 + (-1))), (0, .ref (E.2.2.1 h0)), (2, .int v2), (3, .int v3), (4, .int v4), (5, .int v5)]) rfl ?_
      refine j_goto C d_LE_reckon_102 (tgt := 77) (by decide) ?_
      refine j_lv [1, 2, 3, 4, 5, 0] rfl ?_
      exact hX77 ((v6 + (-1)), I) h
    · have h := h.2 c87
      refine j_aload_n C d_LE_reckon_90 rfl 0 rfl ?_
      refine j_iload C d_LE_reckon_91 5 rfl ?_
      refine j_iload C d_LE_reckon_93 3 rfl ?_
      refine j_iload_n C d_LE_reckon_95 rfl 1 rfl ?_
      refine j_callVv (As := [.int v6, .int v4, .int v2]) C jcl_LE cw_LE_39 w_428 ws_7 g_h0 rfl rfl (by decide) (by decide) (Nat.le_of_ble_eq_true rfl) d_LE_reckon_96 (s_LE_makeNet C.ok hE g_h0 h) (fun I_4 h => ?_)
      refine j_iinc C d_LE_reckon_99 5 rfl (v := (v6 + (-1))) rfl (by decide) (lv' := [(6, .int (v6 + (-1))), (0, .ref (E.2.2.1 h0)), (2, .int v2), (3, .int v3), (4, .int v4), (5, .int v5)]) rfl ?_
      refine j_goto C d_LE_reckon_102 (tgt := 77) (by decide) ?_
      refine j_lv [1, 2, 3, 4, 5, 0] rfl ?_
      exact hX77 ((v6 + (-1)), I_4) h
theorem k_LE_reckon_77 {Z : jZ} {E : jE} (C : jC Z E prog_4_method_2_code 7 "OutOrder$Least" 2 49) (hr : (jZh Z).sig.returnType = none) (hE : E.2.2.2 = jLX)  (h0 : Nat) (v2 : Int32) (v3 : Int32) (v4 : Int32) (v5 : Int32) (v6 : Int32) (I : jM) (g_h0 : jOB E 2 h0) {K : jM → Prop} {X48 : Int32 × jM → Prop} (hX48 : ∀ s : Int32 × jM, X48 s → jJ Z E 7 (jQv Z E K) 48 [(0, .ref (E.2.2.1 h0)), (2, .int v2), (3, .int v3), (4, .int s.1)] [] s.2) (h : LE_reckon_77 h0 v2 v3 v4 v5 v6 I K X48) : jJ Z E 7 (jQv Z E K) 77 [(0, .ref (E.2.2.1 h0)), (2, .int v2), (3, .int v3), (4, .int v4), (5, .int v5), (6, .int v6)] [] I := by
  unfold LE_reckon_77 at h
  exact h (fun s => jJ Z E 7 (jQv Z E K) 77 [(0, .ref (E.2.2.1 h0)), (2, .int v2), (3, .int v3), (4, .int v4), (5, .int v5), (6, .int s.1)] [] s.2) (fun s hs => kb_LE_reckon_77 C hr hE h0 v2 v3 v4 v5 s.1 s.2 g_h0 hX48 (fun s2 h2 => h2) hs)
def LE_reckon_48b (h0 : Nat) (v2 : Int32) (v3 : Int32) (v4 : Int32) (I : jM) (K : jM → Prop) (X48 : Int32 × jM → Prop) : Prop :=
  ((v4 < 0 → K I) ∧ (¬ v4 < 0 → ((¬ v4 = v3 → (∀ v5_1 : Int32, v5_1 = (v4 ^^^ (v4 + (1 : Int32))) → (∀ v6_2 : Int32, v6_2 = (v2 - (1 : Int32)) → LE_reckon_77 h0 v2 v3 v4 v5_1 v6_2 I K X48))) ∧ (v4 = v3 → (∀ v6_3 : Int32, v6_3 = (v2 - (1 : Int32)) → LE_reckon_77 h0 v2 v3 v4 v3 v6_3 I K X48)))))
def LE_reckon_48 (h0 : Nat) (v2 : Int32) (v3 : Int32) (v4 : Int32) (I : jM) (K : jM → Prop) : Prop :=
  lp (fun (X48 : Int32 × jM → Prop) (s : Int32 × jM) => LE_reckon_48b h0 v2 v3 s.1 s.2 K X48) (v4, I)
set_option maxRecDepth 100000 in
set_option maxHeartbeats 4000000 in
theorem kb_LE_reckon_48 {Z : jZ} {E : jE} (C : jC Z E prog_4_method_2_code 7 "OutOrder$Least" 2 49) (hr : (jZh Z).sig.returnType = none) (hE : E.2.2.2 = jLX)  (h0 : Nat) (v2 : Int32) (v3 : Int32) (v4 : Int32) (I : jM) (g_h0 : jOB E 2 h0) {K : jM → Prop} {X48 : Int32 × jM → Prop} (hX48 : ∀ s : Int32 × jM, X48 s → jJ Z E 7 (jQv Z E K) 48 [(0, .ref (E.2.2.1 h0)), (2, .int v2), (3, .int v3), (4, .int s.1)] [] s.2) (h : LE_reckon_48b h0 v2 v3 v4 I K X48) : jJ Z E 7 (jQv Z E K) 48 [(0, .ref (E.2.2.1 h0)), (2, .int v2), (3, .int v3), (4, .int v4)] [] I := by
  unfold LE_reckon_48b at h
  refine j_iload C d_LE_reckon_48 3 rfl ?_
  refine j_if_lt C d_LE_reckon_50 (tgt := 118) (by decide) (fun c50 => ?_) (fun c50 => ?_)
  · have h := h.1 c50
    exact j_vret C hr d_LE_reckon_118 h
  · have h := h.2 c50
    refine j_iload C d_LE_reckon_53 3 rfl ?_
    refine j_iload_n C d_LE_reckon_55 rfl 2 rfl ?_
    refine j_icmp_ne C d_LE_reckon_56 (tgt := 63) (by decide) (fun c56 => ?_) (fun c56 => ?_)
    · have h := h.1 c56
      refine j_iload C d_LE_reckon_63 3 rfl ?_
      refine j_iload C d_LE_reckon_65 3 rfl ?_
      refine j_iconst C d_LE_reckon_67 ic_1 ?_
      refine j_iadd C d_LE_reckon_68 ?_
      refine j_ixor C d_LE_reckon_69 ?_
      refine j_topi (fun v5_1 ev5_1 => ?_)
      have h := h v5_1 ev5_1
      refine j_istore C d_LE_reckon_70 (by decide) (lv' := [(5, .int v5_1), (0, .ref (E.2.2.1 h0)), (2, .int v2), (3, .int v3), (4, .int v4)]) rfl ?_
      refine j_iload_n C d_LE_reckon_72 rfl 2 rfl ?_
      refine j_iconst C d_LE_reckon_73 ic_1 ?_
      refine j_isub C d_LE_reckon_74 ?_
      refine j_topi (fun v6_2 ev6_2 => ?_)
      have h := h v6_2 ev6_2
      refine j_istore C d_LE_reckon_75 (by decide) (lv' := [(6, .int v6_2), (5, .int v5_1), (0, .ref (E.2.2.1 h0)), (2, .int v2), (3, .int v3), (4, .int v4)]) rfl ?_
      refine j_lv [2, 3, 4, 5, 1, 0] rfl ?_
      exact k_LE_reckon_77 C hr hE h0 v2 v3 v4 v5_1 v6_2 I g_h0 hX48 h
    · have h := h.2 c56
      refine j_iload_n C d_LE_reckon_59 rfl 2 rfl ?_
      refine j_goto C d_LE_reckon_60 (tgt := 70) (by decide) ?_
      refine j_istore C d_LE_reckon_70 (by decide) (lv' := [(5, .int v3), (0, .ref (E.2.2.1 h0)), (2, .int v2), (3, .int v3), (4, .int v4)]) rfl ?_
      refine j_iload_n C d_LE_reckon_72 rfl 2 rfl ?_
      refine j_iconst C d_LE_reckon_73 ic_1 ?_
      refine j_isub C d_LE_reckon_74 ?_
      refine j_topi (fun v6_3 ev6_3 => ?_)
      have h := h v6_3 ev6_3
      refine j_istore C d_LE_reckon_75 (by decide) (lv' := [(6, .int v6_3), (5, .int v3), (0, .ref (E.2.2.1 h0)), (2, .int v2), (3, .int v3), (4, .int v4)]) rfl ?_
      refine j_lv [2, 3, 4, 5, 1, 0] rfl ?_
      exact k_LE_reckon_77 C hr hE h0 v2 v3 v4 v3 v6_3 I g_h0 hX48 h
theorem k_LE_reckon_48 {Z : jZ} {E : jE} (C : jC Z E prog_4_method_2_code 7 "OutOrder$Least" 2 49) (hr : (jZh Z).sig.returnType = none) (hE : E.2.2.2 = jLX)  (h0 : Nat) (v2 : Int32) (v3 : Int32) (v4 : Int32) (I : jM) (g_h0 : jOB E 2 h0) {K : jM → Prop} (h : LE_reckon_48 h0 v2 v3 v4 I K) : jJ Z E 7 (jQv Z E K) 48 [(0, .ref (E.2.2.1 h0)), (2, .int v2), (3, .int v3), (4, .int v4)] [] I := by
  unfold LE_reckon_48 at h
  exact h (fun s => jJ Z E 7 (jQv Z E K) 48 [(0, .ref (E.2.2.1 h0)), (2, .int v2), (3, .int v3), (4, .int s.1)] [] s.2) (fun s hs => kb_LE_reckon_48 C hr hE h0 v2 v3 s.1 s.2 g_h0 (fun s2 h2 => h2) hs)
def LE_reckon_14b (h0 : Nat) (h1 : Nat) (v2 : Int32) (v3 : Int32) (I : jM) (K : jM → Prop) (X14 : Int32 × jM → Prop) : Prop :=
  ((v2 ≤ v3 → (∀ v3_1 : Int32, v3_1 = (((1 : Int32) <<< (v2 &&& 31)) - (1 : Int32)) → LE_reckon_48 h0 v2 v3_1 v3_1 I K)) ∧ (¬ v2 ≤ v3 → (vp_in v2 13 ∧ (vp_in v3 24 ∧ (vp_in v3 12 ∧ (∀ I_3 : jM, I_3 = jwr I (jw (jr h0 2) v2.toNatClampNeg) v3.toNatClampNeg (I (jr h1 2) v3.toNatClampNeg) → X14 ((v3 + 1), I_3)))))))
def LE_reckon_14 (h0 : Nat) (h1 : Nat) (v2 : Int32) (v3 : Int32) (I : jM) (K : jM → Prop) : Prop :=
  lp (fun (X14 : Int32 × jM → Prop) (s : Int32 × jM) => LE_reckon_14b h0 h1 v2 s.1 s.2 K X14) (v3, I)
set_option maxRecDepth 100000 in
set_option maxHeartbeats 4000000 in
theorem kb_LE_reckon_14 {Z : jZ} {E : jE} (C : jC Z E prog_4_method_2_code 7 "OutOrder$Least" 2 49) (hr : (jZh Z).sig.returnType = none) (hE : E.2.2.2 = jLX)  (h0 : Nat) (h1 : Nat) (v2 : Int32) (v3 : Int32) (I : jM) (g_h0 : jOB E 2 h0) (g_h1 : jOB E 8 h1) {K : jM → Prop} {X14 : Int32 × jM → Prop} (hX14 : ∀ s : Int32 × jM, X14 s → jJ Z E 7 (jQv Z E K) 14 [(0, .ref (E.2.2.1 h0)), (1, .ref (E.2.2.1 h1)), (2, .int v2), (3, .int s.1)] [] s.2) (h : LE_reckon_14b h0 h1 v2 v3 I K X14) : jJ Z E 7 (jQv Z E K) 14 [(0, .ref (E.2.2.1 h0)), (1, .ref (E.2.2.1 h1)), (2, .int v2), (3, .int v3)] [] I := by
  unfold LE_reckon_14b at h
  refine j_iload_n C d_LE_reckon_14 rfl 3 rfl ?_
  refine j_iload_n C d_LE_reckon_15 rfl 2 rfl ?_
  refine j_icmp_ge C d_LE_reckon_16 (tgt := 39) (by decide) (fun c16 => ?_) (fun c16 => ?_)
  · have h := h.1 c16
    refine j_iconst C d_LE_reckon_39 ic_1 ?_
    refine j_iload_n C d_LE_reckon_40 rfl 2 rfl ?_
    refine j_ishl C d_LE_reckon_41 ?_
    refine j_iconst C d_LE_reckon_42 ic_1 ?_
    refine j_isub C d_LE_reckon_43 ?_
    refine j_topi (fun v3_1 ev3_1 => ?_)
    have h := h v3_1 ev3_1
    refine j_istore_n C d_LE_reckon_44 rfl (by decide) (lv' := [(3, .int v3_1), (0, .ref (E.2.2.1 h0)), (1, .ref (E.2.2.1 h1)), (2, .int v2)]) rfl ?_
    refine j_iload_n C d_LE_reckon_45 rfl 0 rfl ?_
    refine j_istore C d_LE_reckon_46 (by decide) (lv' := [(4, .int v3_1), (3, .int v3_1), (0, .ref (E.2.2.1 h0)), (1, .ref (E.2.2.1 h1)), (2, .int v2)]) rfl ?_
    refine j_lv [2, 4, 1, 0] rfl ?_
    exact k_LE_reckon_48 C hr hE h0 v2 v3_1 v3_1 I g_h0 h
  · have h := h.2 c16
    refine j_aload_n C d_LE_reckon_19 rfl 0 rfl ?_
    refine fg_LE_20 C g_h0 d_LE_reckon_20 ?_
    refine j_iload_n C d_LE_reckon_23 rfl 2 rfl ?_
    obtain ⟨hi_2, h⟩ := h
    refine j_aaload C (sh_LE_2 hE g_h0) hi_2 d_LE_reckon_24 ?_
    refine j_iload_n C d_LE_reckon_25 rfl 3 rfl ?_
    refine j_aload_n C d_LE_reckon_26 rfl 1 rfl ?_
    refine fg_LE_36 C g_h1 d_LE_reckon_27 ?_
    refine j_iload_n C d_LE_reckon_30 rfl 3 rfl ?_
    obtain ⟨hi, h⟩ := h
    refine j_iaload C (sh_TA_2 hE g_h1) hi d_LE_reckon_31 ?_
    obtain ⟨hi, h⟩ := h
    refine j_iastore C (sr_13_12 hE (sh_LE_2 hE g_h0) hi_2) hi d_LE_reckon_32 ?_
    have h := h _ rfl
    generalize eI_3 : (jwr I (jw (jr h0 2) v2.toNatClampNeg) v3.toNatClampNeg (I (jr h1 2) v3.toNatClampNeg) : jM) = I_3 at h ⊢
    refine j_iinc C d_LE_reckon_33 3 rfl (v := (v3 + 1)) rfl (by decide) (lv' := [(3, .int (v3 + 1)), (0, .ref (E.2.2.1 h0)), (1, .ref (E.2.2.1 h1)), (2, .int v2)]) rfl ?_
    refine j_goto C d_LE_reckon_36 (tgt := 14) (by decide) ?_
    refine j_lv [1, 2, 3, 0] rfl ?_
    exact hX14 ((v3 + 1), I_3) h
theorem k_LE_reckon_14 {Z : jZ} {E : jE} (C : jC Z E prog_4_method_2_code 7 "OutOrder$Least" 2 49) (hr : (jZh Z).sig.returnType = none) (hE : E.2.2.2 = jLX)  (h0 : Nat) (h1 : Nat) (v2 : Int32) (v3 : Int32) (I : jM) (g_h0 : jOB E 2 h0) (g_h1 : jOB E 8 h1) {K : jM → Prop} (h : LE_reckon_14 h0 h1 v2 v3 I K) : jJ Z E 7 (jQv Z E K) 14 [(0, .ref (E.2.2.1 h0)), (1, .ref (E.2.2.1 h1)), (2, .int v2), (3, .int v3)] [] I := by
  unfold LE_reckon_14 at h
  exact h (fun s => jJ Z E 7 (jQv Z E K) 14 [(0, .ref (E.2.2.1 h0)), (1, .ref (E.2.2.1 h1)), (2, .int v2), (3, .int s.1)] [] s.2) (fun s hs => kb_LE_reckon_14 C hr hE h0 h1 v2 s.1 s.2 g_h0 g_h1 (fun s2 h2 => h2) hs)
/-- OutOrder$Least.reckon(LOutOrder$Table;)V -/
def LE_reckon (h0 : Nat) (h1 : Nat) (I : jM) (K : jM → Prop) : Prop :=
  (∀ v2_1 : Int32, v2_1 = (I h1 4) → ((v2_1 ≤ (12 : Int32) → LE_reckon_14 h0 h1 v2_1 (0 : Int32) I K) ∧ (¬ v2_1 ≤ (12 : Int32) → K I)))
set_option maxRecDepth 100000 in
set_option maxHeartbeats 4000000 in
theorem s_LE_reckon {l : Launch} {E : jE} (ok : jOK E) (hE : E.2.2.2 = jLX) {h0 : Nat} {h1 : Nat} (g_h0 : jOB E 2 h0) (g_h1 : jOB E 8 h1) {I : jM} {K : jM → Prop} (h : LE_reckon h0 h1 I K) : jSv l E ⟨"OutOrder$Least", "reckon", "(LOutOrder$Table;)V"⟩ prog_4_method_2_code 7 none 2 49 [.ref (E.2.2.1 h0), .ref (E.2.2.1 h1)] I K := by
  refine jS_ofF (own := "OutOrder$Least") (by decide +kernel) rfl ok (Nat.le_of_ble_eq_true rfl) (fun Z _ C hr => ?_)
  show jJ Z E 7 (jQv Z E K) 0 [(0, .ref (E.2.2.1 h0)), (1, .ref (E.2.2.1 h1))] [] I
  unfold LE_reckon at h
  refine j_aload_n C d_LE_reckon_0 rfl 1 rfl ?_
  refine fg_LE_30 C g_h1 d_LE_reckon_1 ?_
  refine j_topi (fun v2_1 ev2_1 => ?_)
  have h := h v2_1 ev2_1
  refine j_istore_n C d_LE_reckon_4 rfl (by decide) (lv' := [(2, .int v2_1), (0, .ref (E.2.2.1 h0)), (1, .ref (E.2.2.1 h1))]) rfl ?_
  refine j_iload_n C d_LE_reckon_5 rfl 0 rfl ?_
  refine j_bipush C d_LE_reckon_6 ib_12 ?_
  refine j_icmp_le C d_LE_reckon_8 (tgt := 12) (by decide) (fun c8 => ?_) (fun c8 => ?_)
  · have h := h.1 c8
    refine j_iconst C d_LE_reckon_12 ic_0 ?_
    refine j_istore_n C d_LE_reckon_13 rfl (by decide) (lv' := [(3, .int (0 : Int32)), (2, .int v2_1), (0, .ref (E.2.2.1 h0)), (1, .ref (E.2.2.1 h1))]) rfl ?_
    refine j_lv [2, 3, 1, 0] rfl ?_
    exact k_LE_reckon_14 C hr hE h0 h1 v2_1 (0 : Int32) I g_h0 g_h1 h
  · have h := h.2 c8
    exact j_vret C hr d_LE_reckon_11 h
theorem d_LE_walk_0 : decode prog_4_method_5_code 0 = .ok (.aload_n 1, 1) := by decide +kernel
theorem d_LE_walk_1 : decode prog_4_method_5_code 1 = .ok (.getfield 30, 3) := by decide +kernel
theorem d_LE_walk_4 : decode prog_4_method_5_code 4 = .ok (.bipush 12, 2) := by decide +kernel
theorem d_LE_walk_6 : decode prog_4_method_5_code 6 = .ok (.if_icmp .le 4, 3) := by decide +kernel
theorem d_LE_walk_9 : decode prog_4_method_5_code 9 = .ok (.return_, 1) := by decide +kernel
theorem d_LE_walk_10 : decode prog_4_method_5_code 10 = .ok (.aload_n 0, 1) := by decide +kernel
theorem d_LE_walk_11 : decode prog_4_method_5_code 11 = .ok (.getfield 26, 3) := by decide +kernel
theorem d_LE_walk_14 : decode prog_4_method_5_code 14 = .ok (.aload_n 1, 1) := by decide +kernel
theorem d_LE_walk_15 : decode prog_4_method_5_code 15 = .ok (.invokevirtual 72, 3) := by decide +kernel
theorem d_LE_walk_18 : decode prog_4_method_5_code 18 = .ok (.iconst 0, 1) := by decide +kernel
theorem d_LE_walk_19 : decode prog_4_method_5_code 19 = .ok (.istore 4, 2) := by decide +kernel
theorem d_LE_walk_21 : decode prog_4_method_5_code 21 = .ok (.iconst 0, 1) := by decide +kernel
theorem d_LE_walk_22 : decode prog_4_method_5_code 22 = .ok (.istore 5, 2) := by decide +kernel
theorem d_LE_walk_24 : decode prog_4_method_5_code 24 = .ok (.iload 5, 2) := by decide +kernel
theorem d_LE_walk_26 : decode prog_4_method_5_code 26 = .ok (.aload_n 1, 1) := by decide +kernel
theorem d_LE_walk_27 : decode prog_4_method_5_code 27 = .ok (.getfield 30, 3) := by decide +kernel
theorem d_LE_walk_30 : decode prog_4_method_5_code 30 = .ok (.if_icmp .ge 44, 3) := by decide +kernel
theorem d_LE_walk_33 : decode prog_4_method_5_code 33 = .ok (.aload_n 0, 1) := by decide +kernel
theorem d_LE_walk_34 : decode prog_4_method_5_code 34 = .ok (.iload 4, 2) := by decide +kernel
theorem d_LE_walk_36 : decode prog_4_method_5_code 36 = .ok (.iload_n 3, 1) := by decide +kernel
theorem d_LE_walk_37 : decode prog_4_method_5_code 37 = .ok (.invokevirtual 76, 3) := by decide +kernel
theorem d_LE_walk_40 : decode prog_4_method_5_code 40 = .ok (.istore 6, 2) := by decide +kernel
theorem d_LE_walk_42 : decode prog_4_method_5_code 42 = .ok (.aload_n 2, 1) := by decide +kernel
theorem d_LE_walk_43 : decode prog_4_method_5_code 43 = .ok (.iload 5, 2) := by decide +kernel
theorem d_LE_walk_45 : decode prog_4_method_5_code 45 = .ok (.iload 6, 2) := by decide +kernel
theorem d_LE_walk_47 : decode prog_4_method_5_code 47 = .ok (.invokevirtual 80, 3) := by decide +kernel
theorem d_LE_walk_50 : decode prog_4_method_5_code 50 = .ok (.aload_n 0, 1) := by decide +kernel
theorem d_LE_walk_51 : decode prog_4_method_5_code 51 = .ok (.getfield 26, 3) := by decide +kernel
theorem d_LE_walk_54 : decode prog_4_method_5_code 54 = .ok (.iload 6, 2) := by decide +kernel
theorem d_LE_walk_56 : decode prog_4_method_5_code 56 = .ok (.invokevirtual 85, 3) := by decide +kernel
theorem d_LE_walk_59 : decode prog_4_method_5_code 59 = .ok (.iload 4, 2) := by decide +kernel
theorem d_LE_walk_61 : decode prog_4_method_5_code 61 = .ok (.iconst 1, 1) := by decide +kernel
theorem d_LE_walk_62 : decode prog_4_method_5_code 62 = .ok (.iload 6, 2) := by decide +kernel
theorem d_LE_walk_64 : decode prog_4_method_5_code 64 = .ok (.ishl, 1) := by decide +kernel
theorem d_LE_walk_65 : decode prog_4_method_5_code 65 = .ok (.ior, 1) := by decide +kernel
theorem d_LE_walk_66 : decode prog_4_method_5_code 66 = .ok (.istore 4, 2) := by decide +kernel
theorem d_LE_walk_68 : decode prog_4_method_5_code 68 = .ok (.iinc 5 1, 3) := by decide +kernel
theorem d_LE_walk_71 : decode prog_4_method_5_code 71 = .ok (.goto (-47), 3) := by decide +kernel
theorem d_LE_walk_74 : decode prog_4_method_5_code 74 = .ok (.return_, 1) := by decide +kernel
def LE_walk_24b (h0 : Nat) (h1 : Nat) (h2 : Nat) (v3 : Int32) (v4 : Int32) (v5 : Int32) (I : jM) (K : jM → Prop) (X24 : Int32 × Int32 × jM → Prop) : Prop :=
  (((I h1 4) ≤ v5 → K I) ∧ (¬ (I h1 4) ≤ v5 → LE_firstGood h0 v4 v3 I (fun r_1 => RO_set h2 v5 r_1 I (fun I_3 => NE_remove (jr h0 3) r_1 I_3 (fun I_5 => (∀ v4_6 : Int32, v4_6 = (v4 ||| ((1 : Int32) <<< (r_1 &&& 31))) → X24 (v4_6, (v5 + 1), I_5)))))))
def LE_walk_24 (h0 : Nat) (h1 : Nat) (h2 : Nat) (v3 : Int32) (v4 : Int32) (v5 : Int32) (I : jM) (K : jM → Prop) : Prop :=
  lp (fun (X24 : Int32 × Int32 × jM → Prop) (s : Int32 × Int32 × jM) => LE_walk_24b h0 h1 h2 v3 s.1 s.2.1 s.2.2 K X24) (v4, v5, I)
set_option maxRecDepth 100000 in
set_option maxHeartbeats 4000000 in
theorem kb_LE_walk_24 {Z : jZ} {E : jE} (C : jC Z E prog_4_method_5_code 7 "OutOrder$Least" 3 69) (hr : (jZh Z).sig.returnType = none) (hE : E.2.2.2 = jLX)  (h0 : Nat) (h1 : Nat) (h2 : Nat) (v3 : Int32) (v4 : Int32) (v5 : Int32) (I : jM) (g_h0 : jOB E 2 h0) (g_h1 : jOB E 8 h1) (g_h2 : jOB E 6 h2) {K : jM → Prop} {X24 : Int32 × Int32 × jM → Prop} (hX24 : ∀ s : Int32 × Int32 × jM, X24 s → jJ Z E 7 (jQv Z E K) 24 [(0, .ref (E.2.2.1 h0)), (1, .ref (E.2.2.1 h1)), (2, .ref (E.2.2.1 h2)), (3, .int v3), (4, .int s.1), (5, .int s.2.1)] [] s.2.2) (h : LE_walk_24b h0 h1 h2 v3 v4 v5 I K X24) : jJ Z E 7 (jQv Z E K) 24 [(0, .ref (E.2.2.1 h0)), (1, .ref (E.2.2.1 h1)), (2, .ref (E.2.2.1 h2)), (3, .int v3), (4, .int v4), (5, .int v5)] [] I := by
  unfold LE_walk_24b at h
  refine j_iload C d_LE_walk_24 5 rfl ?_
  refine j_aload_n C d_LE_walk_26 rfl 1 rfl ?_
  refine fg_LE_30 C g_h1 d_LE_walk_27 ?_
  refine j_icmp_ge C d_LE_walk_30 (tgt := 74) (by decide) (fun c30 => ?_) (fun c30 => ?_)
  · have h := h.1 c30
    exact j_vret C hr d_LE_walk_74 h
  · have h := h.2 c30
    refine j_aload_n C d_LE_walk_33 rfl 0 rfl ?_
    refine j_iload C d_LE_walk_34 4 rfl ?_
    refine j_iload_n C d_LE_walk_36 rfl 3 rfl ?_
    refine j_callVi (As := [.int v4, .int v3]) C jcl_LE cw_LE_76 w_454 ws_9 g_h0 rfl rfl (by decide) (by decide) (Nat.le_of_ble_eq_true rfl) d_LE_walk_37 (s_LE_firstGood C.ok hE g_h0 h) (fun r_1 I2 h => ?_)
    obtain ⟨rfl, h⟩ := h
    refine j_istore C d_LE_walk_40 (by decide) (lv' := [(6, .int r_1), (0, .ref (E.2.2.1 h0)), (1, .ref (E.2.2.1 h1)), (2, .ref (E.2.2.1 h2)), (3, .int v3), (4, .int v4), (5, .int v5)]) rfl ?_
    refine j_aload_n C d_LE_walk_42 rfl 3 rfl ?_
    refine j_iload C d_LE_walk_43 6 rfl ?_
    refine j_iload C d_LE_walk_45 0 rfl ?_
    refine j_callVv (As := [.int v5, .int r_1]) C jcl_RO cw_LE_80 w_289 w_290 g_h2 rfl rfl (by decide) (by decide) (Nat.le_of_ble_eq_true rfl) d_LE_walk_47 (s_RO_set C.ok hE g_h2 h) (fun I_3 h => ?_)
    refine j_aload_n C d_LE_walk_50 rfl 1 rfl ?_
    refine fg_LE_26 C g_h0 d_LE_walk_51 ?_
    refine j_iload C d_LE_walk_54 0 rfl ?_
    refine j_callVv (As := [.int r_1]) C jcl_NE cw_LE_85 w_466 w_467 (sh_LE_3 hE g_h0) rfl rfl (by decide) (by decide) (Nat.le_of_ble_eq_true rfl) d_LE_walk_56 (s_NE_remove C.ok hE (sh_LE_3 hE g_h0) h) (fun I_5 h => ?_)
    refine j_iload C d_LE_walk_59 5 rfl ?_
    refine j_iconst C d_LE_walk_61 ic_1 ?_
    refine j_iload C d_LE_walk_62 0 rfl ?_
    refine j_ishl C d_LE_walk_64 ?_
    refine j_ior C d_LE_walk_65 ?_
    refine j_topi (fun v4_6 ev4_6 => ?_)
    have h := h v4_6 ev4_6
    refine j_istore C d_LE_walk_66 (by decide) (lv' := [(4, .int v4_6), (6, .int r_1), (0, .ref (E.2.2.1 h0)), (1, .ref (E.2.2.1 h1)), (2, .ref (E.2.2.1 h2)), (3, .int v3), (5, .int v5)]) rfl ?_
    refine j_iinc C d_LE_walk_68 6 rfl (v := (v5 + 1)) rfl (by decide) (lv' := [(5, .int (v5 + 1)), (4, .int v4_6), (6, .int r_1), (0, .ref (E.2.2.1 h0)), (1, .ref (E.2.2.1 h1)), (2, .ref (E.2.2.1 h2)), (3, .int v3)]) rfl ?_
    refine j_goto C d_LE_walk_71 (tgt := 24) (by decide) ?_
    refine j_lv [3, 4, 5, 6, 1, 0] rfl ?_
    exact hX24 (v4_6, (v5 + 1), I_5) h
theorem k_LE_walk_24 {Z : jZ} {E : jE} (C : jC Z E prog_4_method_5_code 7 "OutOrder$Least" 3 69) (hr : (jZh Z).sig.returnType = none) (hE : E.2.2.2 = jLX)  (h0 : Nat) (h1 : Nat) (h2 : Nat) (v3 : Int32) (v4 : Int32) (v5 : Int32) (I : jM) (g_h0 : jOB E 2 h0) (g_h1 : jOB E 8 h1) (g_h2 : jOB E 6 h2) {K : jM → Prop} (h : LE_walk_24 h0 h1 h2 v3 v4 v5 I K) : jJ Z E 7 (jQv Z E K) 24 [(0, .ref (E.2.2.1 h0)), (1, .ref (E.2.2.1 h1)), (2, .ref (E.2.2.1 h2)), (3, .int v3), (4, .int v4), (5, .int v5)] [] I := by
  unfold LE_walk_24 at h
  exact h (fun s => jJ Z E 7 (jQv Z E K) 24 [(0, .ref (E.2.2.1 h0)), (1, .ref (E.2.2.1 h1)), (2, .ref (E.2.2.1 h2)), (3, .int v3), (4, .int s.1), (5, .int s.2.1)] [] s.2.2) (fun s hs => kb_LE_walk_24 C hr hE h0 h1 h2 v3 s.1 s.2.1 s.2.2 g_h0 g_h1 g_h2 (fun s2 h2 => h2) hs)
/-- OutOrder$Least.walk(LOutOrder$Table;LOutOrder$Row;Z)V -/
def LE_walk (h0 : Nat) (h1 : Nat) (h2 : Nat) (v3 : Int32) (I : jM) (K : jM → Prop) : Prop :=
  (((I h1 4) ≤ (12 : Int32) → NE_take (jr h0 3) h1 I (fun I_2 => LE_walk_24 h0 h1 h2 v3 (0 : Int32) (0 : Int32) I_2 K)) ∧ (¬ (I h1 4) ≤ (12 : Int32) → K I))
set_option maxRecDepth 100000 in
set_option maxHeartbeats 4000000 in
theorem s_LE_walk {l : Launch} {E : jE} (ok : jOK E) (hE : E.2.2.2 = jLX) {h0 : Nat} {h1 : Nat} {h2 : Nat} {v3 : Int32} (g_h0 : jOB E 2 h0) (g_h1 : jOB E 8 h1) (g_h2 : jOB E 6 h2) {I : jM} {K : jM → Prop} (h : LE_walk h0 h1 h2 v3 I K) : jSv l E ⟨"OutOrder$Least", "walk", "(LOutOrder$Table;LOutOrder$Row;Z)V"⟩ prog_4_method_5_code 7 none 3 69 [.ref (E.2.2.1 h0), .ref (E.2.2.1 h1), .ref (E.2.2.1 h2), .int v3] I K := by
  refine jS_ofF (own := "OutOrder$Least") (by decide +kernel) rfl ok (Nat.le_of_ble_eq_true rfl) (fun Z _ C hr => ?_)
  show jJ Z E 7 (jQv Z E K) 0 [(0, .ref (E.2.2.1 h0)), (1, .ref (E.2.2.1 h1)), (2, .ref (E.2.2.1 h2)), (3, .int v3)] [] I
  unfold LE_walk at h
  refine j_aload_n C d_LE_walk_0 rfl 1 rfl ?_
  refine fg_LE_30 C g_h1 d_LE_walk_1 ?_
  refine j_bipush C d_LE_walk_4 ib_12 ?_
  refine j_icmp_le C d_LE_walk_6 (tgt := 10) (by decide) (fun c6 => ?_) (fun c6 => ?_)
  · have h := h.1 c6
    refine j_aload_n C d_LE_walk_10 rfl 0 rfl ?_
    refine fg_LE_26 C g_h0 d_LE_walk_11 ?_
    refine j_aload_n C d_LE_walk_14 rfl 1 rfl ?_
    refine j_callVv (As := [.ref (E.2.2.1 h1)]) C jcl_NE cw_LE_72 w_301 w_302 (sh_LE_3 hE g_h0) rfl rfl (by decide) (by decide) (Nat.le_of_ble_eq_true rfl) d_LE_walk_15 (s_NE_take C.ok hE (sh_LE_3 hE g_h0) g_h1 h) (fun I_2 h => ?_)
    refine j_iconst C d_LE_walk_18 ic_0 ?_
    refine j_istore C d_LE_walk_19 (by decide) (lv' := [(4, .int (0 : Int32)), (0, .ref (E.2.2.1 h0)), (1, .ref (E.2.2.1 h1)), (2, .ref (E.2.2.1 h2)), (3, .int v3)]) rfl ?_
    refine j_iconst C d_LE_walk_21 ic_0 ?_
    refine j_istore C d_LE_walk_22 (by decide) (lv' := [(5, .int (0 : Int32)), (4, .int (0 : Int32)), (0, .ref (E.2.2.1 h0)), (1, .ref (E.2.2.1 h1)), (2, .ref (E.2.2.1 h2)), (3, .int v3)]) rfl ?_
    refine j_lv [2, 3, 4, 5, 1, 0] rfl ?_
    exact k_LE_walk_24 C hr hE h0 h1 h2 v3 (0 : Int32) (0 : Int32) I_2 g_h0 g_h1 g_h2 h
  · have h := h.2 c6
    exact j_vret C hr d_LE_walk_9 h
