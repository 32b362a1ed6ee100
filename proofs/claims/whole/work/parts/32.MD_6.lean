theorem d_MD_side_0 : decode prog_14_method_55_code 0 = .ok (.aload_n 0, 1) := by decide +kernel
theorem d_MD_side_1 : decode prog_14_method_55_code 1 = .ok (.iload_n 1, 1) := by decide +kernel
theorem d_MD_side_2 : decode prog_14_method_55_code 2 = .ok (.invokevirtual 90, 3) := by decide +kernel
theorem d_MD_side_5 : decode prog_14_method_55_code 5 = .ok (.ifCond .ne 9, 3) := by decide +kernel
theorem d_MD_side_8 : decode prog_14_method_55_code 8 = .ok (.aload_n 0, 1) := by decide +kernel
theorem d_MD_side_9 : decode prog_14_method_55_code 9 = .ok (.iconst (-1), 1) := by decide +kernel
theorem d_MD_side_10 : decode prog_14_method_55_code 10 = .ok (.invokevirtual 79, 3) := by decide +kernel
theorem d_MD_side_13 : decode prog_14_method_55_code 13 = .ok (.ireturn, 1) := by decide +kernel
theorem d_MD_side_14 : decode prog_14_method_55_code 14 = .ok (.aload_n 0, 1) := by decide +kernel
theorem d_MD_side_15 : decode prog_14_method_55_code 15 = .ok (.getfield 27, 3) := by decide +kernel
theorem d_MD_side_18 : decode prog_14_method_55_code 18 = .ok (.iload_n 1, 1) := by decide +kernel
theorem d_MD_side_19 : decode prog_14_method_55_code 19 = .ok (.iaload, 1) := by decide +kernel
theorem d_MD_side_20 : decode prog_14_method_55_code 20 = .ok (.istore_n 3, 1) := by decide +kernel
theorem d_MD_side_21 : decode prog_14_method_55_code 21 = .ok (.aload_n 0, 1) := by decide +kernel
theorem d_MD_side_22 : decode prog_14_method_55_code 22 = .ok (.getfield 27, 3) := by decide +kernel
theorem d_MD_side_25 : decode prog_14_method_55_code 25 = .ok (.iload_n 1, 1) := by decide +kernel
theorem d_MD_side_26 : decode prog_14_method_55_code 26 = .ok (.aload_n 0, 1) := by decide +kernel
theorem d_MD_side_27 : decode prog_14_method_55_code 27 = .ok (.iload_n 2, 1) := by decide +kernel
theorem d_MD_side_28 : decode prog_14_method_55_code 28 = .ok (.i2l, 1) := by decide +kernel
theorem d_MD_side_29 : decode prog_14_method_55_code 29 = .ok (.invokevirtual 94, 3) := by decide +kernel
theorem d_MD_side_32 : decode prog_14_method_55_code 32 = .ok (.iastore, 1) := by decide +kernel
theorem d_MD_side_33 : decode prog_14_method_55_code 33 = .ok (.iload_n 3, 1) := by decide +kernel
theorem d_MD_side_34 : decode prog_14_method_55_code 34 = .ok (.ireturn, 1) := by decide +kernel
/-- OutOrderModel.side(II)I -/
def MD_side (h0 : Nat) (v1 : Int32) (v2 : Int32) (I : jM) (K : Int32 → jM → Prop) : Prop :=
  MD_isUnknown h0 v1 I (fun r_1 => ((¬ r_1 = 0 → (vp_in v1 24 ∧ (∀ v3_2 : Int32, v3_2 = (I (jr h0 5) v1.toNatClampNeg) → MD_modulo h0 v2.toInt64 I (fun r_3 => (vp_in v1 24 ∧ (∀ I_4 : jM, I_4 = jwr I (jr h0 5) v1.toNatClampNeg r_3 → K v3_2 I_4)))))) ∧ (r_1 = 0 → MD_refuse h0 (-1 : Int32) I (fun r_5 I_6 => K r_5 I_6))))
set_option maxRecDepth 100000 in
set_option maxHeartbeats 4000000 in
theorem s_MD_side {l : Launch} {E : jE} (ok : jOK E) (hE : E.2.2.2 = jLM) {h0 : Nat} {v1 : Int32} {v2 : Int32} (g_h0 : jOB E 11 h0) {I : jM} {K : Int32 → jM → Prop} (h : MD_side h0 v1 v2 I K) : jSi l E ⟨"OutOrderModel", "side", "(II)I"⟩ prog_14_method_55_code 4 (some .int) 2 43 [.ref (E.2.2.1 h0), .int v1, .int v2] I K := by
  refine jS_ofF (own := "OutOrderModel") (by decide +kernel) rfl ok (Nat.le_of_ble_eq_true rfl) (fun Z _ C hr => ?_)
  show jJ Z E 4 (jQi Z E K) 0 [(0, .ref (E.2.2.1 h0)), (1, .int v1), (2, .int v2)] [] I
  unfold MD_side at h
  refine j_aload_n C d_MD_side_0 rfl 0 rfl ?_
  refine j_iload_n C d_MD_side_1 rfl 1 rfl ?_
  refine j_callVi (As := [.int v1]) C jcl_MD cw_MD_90 w_829 ws_26 g_h0 rfl rfl (by decide) (by decide) (Nat.le_of_ble_eq_true rfl) d_MD_side_2 (s_MD_isUnknown C.ok g_h0 h) (fun r_1 I2 h => ?_)
  obtain ⟨rfl, h⟩ := h
  refine j_if_ne C d_MD_side_5 (tgt := 14) (by decide) (fun c5 => ?_) (fun c5 => ?_)
  · have h := h.1 c5
    refine j_aload_n C d_MD_side_14 rfl 0 rfl ?_
    refine fg_MD_27 C g_h0 d_MD_side_15 ?_
    refine j_iload_n C d_MD_side_18 rfl 1 rfl ?_
    obtain ⟨hi, h⟩ := h
    refine j_iaload C (sh_MD_5 hE g_h0) hi d_MD_side_19 ?_
    refine j_topi (fun v3_2 ev3_2 => ?_)
    have h := h v3_2 ev3_2
    refine j_istore_n C d_MD_side_20 rfl (by decide) (lv' := [(3, .int v3_2), (0, .ref (E.2.2.1 h0)), (1, .int v1), (2, .int v2)]) rfl ?_
    refine j_aload_n C d_MD_side_21 rfl 1 rfl ?_
    refine fg_MD_27 C g_h0 d_MD_side_22 ?_
    refine j_iload_n C d_MD_side_25 rfl 2 rfl ?_
    refine j_aload_n C d_MD_side_26 rfl 1 rfl ?_
    refine j_iload_n C d_MD_side_27 rfl 3 rfl ?_
    refine j_i2l C d_MD_side_28 ?_
    refine j_callVi (As := [.long v2.toInt64]) C jcl_MD cw_MD_94 w_836 ws_27 g_h0 rfl rfl (by decide) (by decide) (Nat.le_of_ble_eq_true rfl) d_MD_side_29 (s_MD_modulo C.ok g_h0 h) (fun r_3 I2 h => ?_)
    obtain ⟨rfl, h⟩ := h
    obtain ⟨hi, h⟩ := h
    refine j_iastore C (sh_MD_5 hE g_h0) hi d_MD_side_32 ?_
    have h := h _ rfl
    generalize eI_4 : (jwr I (jr h0 5) v1.toNatClampNeg r_3 : jM) = I_4 at h ⊢
    refine j_iload_n C d_MD_side_33 rfl 0 rfl ?_
    exact j_iret C hr d_MD_side_34 h
  · have h := h.2 c5
    refine j_aload_n C d_MD_side_8 rfl 0 rfl ?_
    refine j_iconst C d_MD_side_9 ic_m1 ?_
    refine j_callVi (As := [.int (-1 : Int32)]) C jcl_MD cw_MD_79 w_809 ws_23 g_h0 rfl rfl (by decide) (by decide) (Nat.le_of_ble_eq_true rfl) d_MD_side_10 (s_MD_refuse C.ok hE g_h0 h) (fun r_5 I_6 h => ?_)
    exact j_iret C hr d_MD_side_13 h
theorem d_MD_solve_0 : decode prog_14_method_58_code 0 = .ok (.aload_n 0, 1) := by decide +kernel
theorem d_MD_solve_1 : decode prog_14_method_58_code 1 = .ok (.iload_n 1, 1) := by decide +kernel
theorem d_MD_solve_2 : decode prog_14_method_58_code 2 = .ok (.invokevirtual 90, 3) := by decide +kernel
theorem d_MD_solve_5 : decode prog_14_method_58_code 5 = .ok (.ifCond .ne 9, 3) := by decide +kernel
theorem d_MD_solve_8 : decode prog_14_method_58_code 8 = .ok (.aload_n 0, 1) := by decide +kernel
theorem d_MD_solve_9 : decode prog_14_method_58_code 9 = .ok (.iconst (-1), 1) := by decide +kernel
theorem d_MD_solve_10 : decode prog_14_method_58_code 10 = .ok (.invokevirtual 79, 3) := by decide +kernel
theorem d_MD_solve_13 : decode prog_14_method_58_code 13 = .ok (.ireturn, 1) := by decide +kernel
theorem d_MD_solve_14 : decode prog_14_method_58_code 14 = .ok (.aload_n 0, 1) := by decide +kernel
theorem d_MD_solve_15 : decode prog_14_method_58_code 15 = .ok (.invokevirtual 188, 3) := by decide +kernel
theorem d_MD_solve_18 : decode prog_14_method_58_code 18 = .ok (.ifCond .ne 10, 3) := by decide +kernel
theorem d_MD_solve_21 : decode prog_14_method_58_code 21 = .ok (.aload_n 0, 1) := by decide +kernel
theorem d_MD_solve_22 : decode prog_14_method_58_code 22 = .ok (.bipush (-5), 2) := by decide +kernel
theorem d_MD_solve_24 : decode prog_14_method_58_code 24 = .ok (.invokevirtual 79, 3) := by decide +kernel
theorem d_MD_solve_27 : decode prog_14_method_58_code 27 = .ok (.ireturn, 1) := by decide +kernel
theorem d_MD_solve_28 : decode prog_14_method_58_code 28 = .ok (.iconst 0, 1) := by decide +kernel
theorem d_MD_solve_29 : decode prog_14_method_58_code 29 = .ok (.istore_n 2, 1) := by decide +kernel
theorem d_MD_solve_30 : decode prog_14_method_58_code 30 = .ok (.iload_n 2, 1) := by decide +kernel
theorem d_MD_solve_31 : decode prog_14_method_58_code 31 = .ok (.aload_n 0, 1) := by decide +kernel
theorem d_MD_solve_32 : decode prog_14_method_58_code 32 = .ok (.getfield 7, 3) := by decide +kernel
theorem d_MD_solve_35 : decode prog_14_method_58_code 35 = .ok (.if_icmp .ge 21, 3) := by decide +kernel
theorem d_MD_solve_38 : decode prog_14_method_58_code 38 = .ok (.aload_n 0, 1) := by decide +kernel
theorem d_MD_solve_39 : decode prog_14_method_58_code 39 = .ok (.getfield 69, 3) := by decide +kernel
theorem d_MD_solve_42 : decode prog_14_method_58_code 42 = .ok (.iload_n 2, 1) := by decide +kernel
theorem d_MD_solve_43 : decode prog_14_method_58_code 43 = .ok (.aload_n 0, 1) := by decide +kernel
theorem d_MD_solve_44 : decode prog_14_method_58_code 44 = .ok (.getfield 27, 3) := by decide +kernel
theorem d_MD_solve_47 : decode prog_14_method_58_code 47 = .ok (.iload_n 2, 1) := by decide +kernel
theorem d_MD_solve_48 : decode prog_14_method_58_code 48 = .ok (.iaload, 1) := by decide +kernel
theorem d_MD_solve_49 : decode prog_14_method_58_code 49 = .ok (.iastore, 1) := by decide +kernel
theorem d_MD_solve_50 : decode prog_14_method_58_code 50 = .ok (.iinc 2 1, 3) := by decide +kernel
theorem d_MD_solve_53 : decode prog_14_method_58_code 53 = .ok (.goto (-23), 3) := by decide +kernel
theorem d_MD_solve_56 : decode prog_14_method_58_code 56 = .ok (.aload_n 0, 1) := by decide +kernel
theorem d_MD_solve_57 : decode prog_14_method_58_code 57 = .ok (.invokevirtual 191, 3) := by decide +kernel
theorem d_MD_solve_60 : decode prog_14_method_58_code 60 = .ok (.aload_n 0, 1) := by decide +kernel
theorem d_MD_solve_61 : decode prog_14_method_58_code 61 = .ok (.getfield 69, 3) := by decide +kernel
theorem d_MD_solve_64 : decode prog_14_method_58_code 64 = .ok (.iload_n 1, 1) := by decide +kernel
theorem d_MD_solve_65 : decode prog_14_method_58_code 65 = .ok (.iaload, 1) := by decide +kernel
theorem d_MD_solve_66 : decode prog_14_method_58_code 66 = .ok (.ireturn, 1) := by decide +kernel
def MD_solve_30b (h0 : Nat) (v1 : Int32) (v2 : Int32) (I : jM) (K : Int32 → jM → Prop) (X30 : Int32 × jM → Prop) : Prop :=
  (((I h0 0) ≤ v2 → MD_solveAll h0 I (fun I_2 => (vp_in v1 24 ∧ K (I_2 (jr h0 22) v1.toNatClampNeg) I_2))) ∧ (¬ (I h0 0) ≤ v2 → (vp_in v2 24 ∧ (vp_in v2 24 ∧ (∀ I_3 : jM, I_3 = jwr I (jr h0 22) v2.toNatClampNeg (I (jr h0 5) v2.toNatClampNeg) → X30 ((v2 + 1), I_3))))))
def MD_solve_30 (h0 : Nat) (v1 : Int32) (v2 : Int32) (I : jM) (K : Int32 → jM → Prop) : Prop :=
  lp (fun (X30 : Int32 × jM → Prop) (s : Int32 × jM) => MD_solve_30b h0 v1 s.1 s.2 K X30) (v2, I)
set_option maxRecDepth 100000 in
set_option maxHeartbeats 4000000 in
theorem kb_MD_solve_30 {Z : jZ} {E : jE} (C : jC Z E prog_14_method_58_code 3 "OutOrderModel" 2 48) (hr : (jZh Z).sig.returnType = (some .int)) (hE : E.2.2.2 = jLM)  (h0 : Nat) (v1 : Int32) (v2 : Int32) (I : jM) (g_h0 : jOB E 11 h0) {K : Int32 → jM → Prop} {X30 : Int32 × jM → Prop} (hX30 : ∀ s : Int32 × jM, X30 s → jJ Z E 3 (jQi Z E K) 30 [(0, .ref (E.2.2.1 h0)), (1, .int v1), (2, .int s.1)] [] s.2) (h : MD_solve_30b h0 v1 v2 I K X30) : jJ Z E 3 (jQi Z E K) 30 [(0, .ref (E.2.2.1 h0)), (1, .int v1), (2, .int v2)] [] I := by
  unfold MD_solve_30b at h
  refine j_iload_n C d_MD_solve_30 rfl 2 rfl ?_
  refine j_aload_n C d_MD_solve_31 rfl 0 rfl ?_
  refine fg_MD_7 C g_h0 d_MD_solve_32 ?_
  refine j_icmp_ge C d_MD_solve_35 (tgt := 56) (by decide) (fun c35 => ?_) (fun c35 => ?_)
  · have h := h.1 c35
    refine j_aload_n C d_MD_solve_56 rfl 0 rfl ?_
    refine j_callVv (As := []) C jcl_MD cw_MD_191 w_1023 ws_49 g_h0 rfl rfl (by decide) (by decide) (Nat.le_of_ble_eq_true rfl) d_MD_solve_57 (s_MD_solveAll C.ok hE g_h0 h) (fun I_2 h => ?_)
    refine j_aload_n C d_MD_solve_60 rfl 0 rfl ?_
    refine fg_MD_69 C g_h0 d_MD_solve_61 ?_
    refine j_iload_n C d_MD_solve_64 rfl 1 rfl ?_
    obtain ⟨hi, h⟩ := h
    refine j_iaload C (sh_MD_22 hE g_h0) hi d_MD_solve_65 ?_
    exact j_iret C hr d_MD_solve_66 h
  · have h := h.2 c35
    refine j_aload_n C d_MD_solve_38 rfl 0 rfl ?_
    refine fg_MD_69 C g_h0 d_MD_solve_39 ?_
    refine j_iload_n C d_MD_solve_42 rfl 2 rfl ?_
    refine j_aload_n C d_MD_solve_43 rfl 0 rfl ?_
    refine fg_MD_27 C g_h0 d_MD_solve_44 ?_
    refine j_iload_n C d_MD_solve_47 rfl 2 rfl ?_
    obtain ⟨hi, h⟩ := h
    refine j_iaload C (sh_MD_5 hE g_h0) hi d_MD_solve_48 ?_
    obtain ⟨hi, h⟩ := h
    refine j_iastore C (sh_MD_22 hE g_h0) hi d_MD_solve_49 ?_
    have h := h _ rfl
    generalize eI_3 : (jwr I (jr h0 22) v2.toNatClampNeg (I (jr h0 5) v2.toNatClampNeg) : jM) = I_3 at h ⊢
    refine j_iinc C d_MD_solve_50 2 rfl (v := (v2 + 1)) rfl (by decide) (lv' := [(2, .int (v2 + 1)), (0, .ref (E.2.2.1 h0)), (1, .int v1)]) rfl ?_
    refine j_goto C d_MD_solve_53 (tgt := 30) (by decide) ?_
    refine j_lv [1, 2, 0] rfl ?_
    exact hX30 ((v2 + 1), I_3) h
theorem k_MD_solve_30 {Z : jZ} {E : jE} (C : jC Z E prog_14_method_58_code 3 "OutOrderModel" 2 48) (hr : (jZh Z).sig.returnType = (some .int)) (hE : E.2.2.2 = jLM)  (h0 : Nat) (v1 : Int32) (v2 : Int32) (I : jM) (g_h0 : jOB E 11 h0) {K : Int32 → jM → Prop} (h : MD_solve_30 h0 v1 v2 I K) : jJ Z E 3 (jQi Z E K) 30 [(0, .ref (E.2.2.1 h0)), (1, .int v1), (2, .int v2)] [] I := by
  unfold MD_solve_30 at h
  exact h (fun s => jJ Z E 3 (jQi Z E K) 30 [(0, .ref (E.2.2.1 h0)), (1, .int v1), (2, .int s.1)] [] s.2) (fun s hs => kb_MD_solve_30 C hr hE h0 v1 s.1 s.2 g_h0 (fun s2 h2 => h2) hs)
/-- OutOrderModel.solve(I)I -/
def MD_solve (h0 : Nat) (v1 : Int32) (I : jM) (K : Int32 → jM → Prop) : Prop :=
  MD_isUnknown h0 v1 I (fun r_1 => ((¬ r_1 = 0 → MD_isSolved h0 I (fun r_2 => ((¬ r_2 = 0 → MD_solve_30 h0 v1 (0 : Int32) I K) ∧ (r_2 = 0 → MD_refuse h0 (-5 : Int32) I (fun r_3 I_4 => K r_3 I_4))))) ∧ (r_1 = 0 → MD_refuse h0 (-1 : Int32) I (fun r_5 I_6 => K r_5 I_6))))
set_option maxRecDepth 100000 in
set_option maxHeartbeats 4000000 in
theorem s_MD_solve {l : Launch} {E : jE} (ok : jOK E) (hE : E.2.2.2 = jLM) {h0 : Nat} {v1 : Int32} (g_h0 : jOB E 11 h0) {I : jM} {K : Int32 → jM → Prop} (h : MD_solve h0 v1 I K) : jSi l E ⟨"OutOrderModel", "solve", "(I)I"⟩ prog_14_method_58_code 3 (some .int) 2 48 [.ref (E.2.2.1 h0), .int v1] I K := by
  refine jS_ofF (own := "OutOrderModel") (by decide +kernel) rfl ok (Nat.le_of_ble_eq_true rfl) (fun Z _ C hr => ?_)
  show jJ Z E 3 (jQi Z E K) 0 [(0, .ref (E.2.2.1 h0)), (1, .int v1)] [] I
  unfold MD_solve at h
  refine j_aload_n C d_MD_solve_0 rfl 0 rfl ?_
  refine j_iload_n C d_MD_solve_1 rfl 1 rfl ?_
  refine j_callVi (As := [.int v1]) C jcl_MD cw_MD_90 w_829 ws_26 g_h0 rfl rfl (by decide) (by decide) (Nat.le_of_ble_eq_true rfl) d_MD_solve_2 (s_MD_isUnknown C.ok g_h0 h) (fun r_1 I2 h => ?_)
  obtain ⟨rfl, h⟩ := h
  refine j_if_ne C d_MD_solve_5 (tgt := 14) (by decide) (fun c5 => ?_) (fun c5 => ?_)
  · have h := h.1 c5
    refine j_aload_n C d_MD_solve_14 rfl 0 rfl ?_
    refine j_callVi (As := []) C jcl_MD cw_MD_188 w_1019 ws_48 g_h0 rfl rfl (by decide) (by decide) (Nat.le_of_ble_eq_true rfl) d_MD_solve_15 (s_MD_isSolved C.ok hE g_h0 h) (fun r_2 I2 h => ?_)
    obtain ⟨rfl, h⟩ := h
    refine j_if_ne C d_MD_solve_18 (tgt := 28) (by decide) (fun c18 => ?_) (fun c18 => ?_)
    · have h := h.1 c18
      refine j_iconst C d_MD_solve_28 ic_0 ?_
      refine j_istore_n C d_MD_solve_29 rfl (by decide) (lv' := [(2, .int (0 : Int32)), (0, .ref (E.2.2.1 h0)), (1, .int v1)]) rfl ?_
      refine j_lv [1, 2, 0] rfl ?_
      exact k_MD_solve_30 C hr hE h0 v1 (0 : Int32) I g_h0 h
    · have h := h.2 c18
      refine j_aload_n C d_MD_solve_21 rfl 0 rfl ?_
      refine j_bipush C d_MD_solve_22 ib_m5 ?_
      refine j_callVi (As := [.int (-5 : Int32)]) C jcl_MD cw_MD_79 w_809 ws_23 g_h0 rfl rfl (by decide) (by decide) (Nat.le_of_ble_eq_true rfl) d_MD_solve_24 (s_MD_refuse C.ok hE g_h0 h) (fun r_3 I_4 h => ?_)
      exact j_iret C hr d_MD_solve_27 h
  · have h := h.2 c5
    refine j_aload_n C d_MD_solve_8 rfl 0 rfl ?_
    refine j_iconst C d_MD_solve_9 ic_m1 ?_
    refine j_callVi (As := [.int (-1 : Int32)]) C jcl_MD cw_MD_79 w_809 ws_23 g_h0 rfl rfl (by decide) (by decide) (Nat.le_of_ble_eq_true rfl) d_MD_solve_10 (s_MD_refuse C.ok hE g_h0 h) (fun r_5 I_6 h => ?_)
    exact j_iret C hr d_MD_solve_13 h
theorem d_MD_status_0 : decode prog_14_method_64_code 0 = .ok (.iconst 0, 1) := by decide +kernel
theorem d_MD_status_1 : decode prog_14_method_64_code 1 = .ok (.istore_n 2, 1) := by decide +kernel
theorem d_MD_status_2 : decode prog_14_method_64_code 2 = .ok (.iload_n 1, 1) := by decide +kernel
theorem d_MD_status_3 : decode prog_14_method_64_code 3 = .ok (.tableswitch 191 0 7 #[45, 50, 55, 91, 126, 131, 136, 141], 45) := by decide +kernel
theorem d_MD_status_48 : decode prog_14_method_64_code 48 = .ok (.aload_n 0, 1) := by decide +kernel
theorem d_MD_status_49 : decode prog_14_method_64_code 49 = .ok (.getfield 7, 3) := by decide +kernel
theorem d_MD_status_52 : decode prog_14_method_64_code 52 = .ok (.ireturn, 1) := by decide +kernel
theorem d_MD_status_53 : decode prog_14_method_64_code 53 = .ok (.aload_n 0, 1) := by decide +kernel
theorem d_MD_status_54 : decode prog_14_method_64_code 54 = .ok (.getfield 13, 3) := by decide +kernel
theorem d_MD_status_57 : decode prog_14_method_64_code 57 = .ok (.ireturn, 1) := by decide +kernel
theorem d_MD_status_58 : decode prog_14_method_64_code 58 = .ok (.aload_n 0, 1) := by decide +kernel
theorem d_MD_status_59 : decode prog_14_method_64_code 59 = .ok (.invokevirtual 100, 3) := by decide +kernel
theorem d_MD_status_62 : decode prog_14_method_64_code 62 = .ok (.iconst 0, 1) := by decide +kernel
theorem d_MD_status_63 : decode prog_14_method_64_code 63 = .ok (.istore_n 3, 1) := by decide +kernel
theorem d_MD_status_64 : decode prog_14_method_64_code 64 = .ok (.iload_n 3, 1) := by decide +kernel
theorem d_MD_status_65 : decode prog_14_method_64_code 65 = .ok (.aload_n 0, 1) := by decide +kernel
theorem d_MD_status_66 : decode prog_14_method_64_code 66 = .ok (.getfield 7, 3) := by decide +kernel
theorem d_MD_status_69 : decode prog_14_method_64_code 69 = .ok (.if_icmp .ge 21, 3) := by decide +kernel
theorem d_MD_status_72 : decode prog_14_method_64_code 72 = .ok (.iload_n 2, 1) := by decide +kernel
theorem d_MD_status_73 : decode prog_14_method_64_code 73 = .ok (.aload_n 0, 1) := by decide +kernel
theorem d_MD_status_74 : decode prog_14_method_64_code 74 = .ok (.getfield 33, 3) := by decide +kernel
theorem d_MD_status_77 : decode prog_14_method_64_code 77 = .ok (.iload_n 3, 1) := by decide +kernel
theorem d_MD_status_78 : decode prog_14_method_64_code 78 = .ok (.iaload, 1) := by decide +kernel
theorem d_MD_status_79 : decode prog_14_method_64_code 79 = .ok (.invokestatic 98, 3) := by decide +kernel
theorem d_MD_status_82 : decode prog_14_method_64_code 82 = .ok (.iadd, 1) := by decide +kernel
theorem d_MD_status_83 : decode prog_14_method_64_code 83 = .ok (.istore_n 2, 1) := by decide +kernel
theorem d_MD_status_84 : decode prog_14_method_64_code 84 = .ok (.iinc 3 1, 3) := by decide +kernel
theorem d_MD_status_87 : decode prog_14_method_64_code 87 = .ok (.goto (-23), 3) := by decide +kernel
theorem d_MD_status_90 : decode prog_14_method_64_code 90 = .ok (.iload_n 2, 1) := by decide +kernel
theorem d_MD_status_91 : decode prog_14_method_64_code 91 = .ok (.iconst 2, 1) := by decide +kernel
theorem d_MD_status_92 : decode prog_14_method_64_code 92 = .ok (.idiv, 1) := by decide +kernel
theorem d_MD_status_93 : decode prog_14_method_64_code 93 = .ok (.ireturn, 1) := by decide +kernel
theorem d_MD_status_94 : decode prog_14_method_64_code 94 = .ok (.iconst 0, 1) := by decide +kernel
theorem d_MD_status_95 : decode prog_14_method_64_code 95 = .ok (.istore_n 3, 1) := by decide +kernel
theorem d_MD_status_96 : decode prog_14_method_64_code 96 = .ok (.iload_n 3, 1) := by decide +kernel
theorem d_MD_status_97 : decode prog_14_method_64_code 97 = .ok (.aload_n 0, 1) := by decide +kernel
theorem d_MD_status_98 : decode prog_14_method_64_code 98 = .ok (.getfield 7, 3) := by decide +kernel
theorem d_MD_status_101 : decode prog_14_method_64_code 101 = .ok (.if_icmp .ge 26, 3) := by decide +kernel
theorem d_MD_status_104 : decode prog_14_method_64_code 104 = .ok (.iload_n 2, 1) := by decide +kernel
theorem d_MD_status_105 : decode prog_14_method_64_code 105 = .ok (.aload_n 0, 1) := by decide +kernel
theorem d_MD_status_106 : decode prog_14_method_64_code 106 = .ok (.getfield 20, 3) := by decide +kernel
theorem d_MD_status_109 : decode prog_14_method_64_code 109 = .ok (.iload_n 3, 1) := by decide +kernel
theorem d_MD_status_110 : decode prog_14_method_64_code 110 = .ok (.baload, 1) := by decide +kernel
theorem d_MD_status_111 : decode prog_14_method_64_code 111 = .ok (.ifCond .eq 7, 3) := by decide +kernel
theorem d_MD_status_114 : decode prog_14_method_64_code 114 = .ok (.iconst 1, 1) := by decide +kernel
theorem d_MD_status_115 : decode prog_14_method_64_code 115 = .ok (.goto 4, 3) := by decide +kernel
theorem d_MD_status_118 : decode prog_14_method_64_code 118 = .ok (.iconst 0, 1) := by decide +kernel
theorem d_MD_status_119 : decode prog_14_method_64_code 119 = .ok (.iadd, 1) := by decide +kernel
theorem d_MD_status_120 : decode prog_14_method_64_code 120 = .ok (.istore_n 2, 1) := by decide +kernel
theorem d_MD_status_121 : decode prog_14_method_64_code 121 = .ok (.iinc 3 1, 3) := by decide +kernel
theorem d_MD_status_124 : decode prog_14_method_64_code 124 = .ok (.goto (-28), 3) := by decide +kernel
theorem d_MD_status_127 : decode prog_14_method_64_code 127 = .ok (.iload_n 2, 1) := by decide +kernel
theorem d_MD_status_128 : decode prog_14_method_64_code 128 = .ok (.ireturn, 1) := by decide +kernel
theorem d_MD_status_129 : decode prog_14_method_64_code 129 = .ok (.aload_n 0, 1) := by decide +kernel
theorem d_MD_status_130 : decode prog_14_method_64_code 130 = .ok (.getfield 161, 3) := by decide +kernel
theorem d_MD_status_133 : decode prog_14_method_64_code 133 = .ok (.ireturn, 1) := by decide +kernel
theorem d_MD_status_134 : decode prog_14_method_64_code 134 = .ok (.aload_n 0, 1) := by decide +kernel
theorem d_MD_status_135 : decode prog_14_method_64_code 135 = .ok (.getfield 176, 3) := by decide +kernel
theorem d_MD_status_138 : decode prog_14_method_64_code 138 = .ok (.ireturn, 1) := by decide +kernel
theorem d_MD_status_139 : decode prog_14_method_64_code 139 = .ok (.aload_n 0, 1) := by decide +kernel
theorem d_MD_status_140 : decode prog_14_method_64_code 140 = .ok (.getfield 60, 3) := by decide +kernel
theorem d_MD_status_143 : decode prog_14_method_64_code 143 = .ok (.ireturn, 1) := by decide +kernel
theorem d_MD_status_144 : decode prog_14_method_64_code 144 = .ok (.iconst 0, 1) := by decide +kernel
theorem d_MD_status_145 : decode prog_14_method_64_code 145 = .ok (.istore_n 3, 1) := by decide +kernel
theorem d_MD_status_146 : decode prog_14_method_64_code 146 = .ok (.iload_n 3, 1) := by decide +kernel
theorem d_MD_status_147 : decode prog_14_method_64_code 147 = .ok (.aload_n 0, 1) := by decide +kernel
theorem d_MD_status_148 : decode prog_14_method_64_code 148 = .ok (.getfield 7, 3) := by decide +kernel
theorem d_MD_status_151 : decode prog_14_method_64_code 151 = .ok (.aload_n 0, 1) := by decide +kernel
theorem d_MD_status_152 : decode prog_14_method_64_code 152 = .ok (.getfield 7, 3) := by decide +kernel
theorem d_MD_status_155 : decode prog_14_method_64_code 155 = .ok (.imul, 1) := by decide +kernel
theorem d_MD_status_156 : decode prog_14_method_64_code 156 = .ok (.if_icmp .ge 36, 3) := by decide +kernel
theorem d_MD_status_159 : decode prog_14_method_64_code 159 = .ok (.bipush 31, 2) := by decide +kernel
theorem d_MD_status_161 : decode prog_14_method_64_code 161 = .ok (.iload_n 2, 1) := by decide +kernel
theorem d_MD_status_162 : decode prog_14_method_64_code 162 = .ok (.imul, 1) := by decide +kernel
theorem d_MD_status_163 : decode prog_14_method_64_code 163 = .ok (.aload_n 0, 1) := by decide +kernel
theorem d_MD_status_164 : decode prog_14_method_64_code 164 = .ok (.getfield 16, 3) := by decide +kernel
theorem d_MD_status_167 : decode prog_14_method_64_code 167 = .ok (.bipush 24, 2) := by decide +kernel
theorem d_MD_status_169 : decode prog_14_method_64_code 169 = .ok (.iload_n 3, 1) := by decide +kernel
theorem d_MD_status_170 : decode prog_14_method_64_code 170 = .ok (.aload_n 0, 1) := by decide +kernel
theorem d_MD_status_171 : decode prog_14_method_64_code 171 = .ok (.getfield 7, 3) := by decide +kernel
theorem d_MD_status_174 : decode prog_14_method_64_code 174 = .ok (.idiv, 1) := by decide +kernel
theorem d_MD_status_175 : decode prog_14_method_64_code 175 = .ok (.imul, 1) := by decide +kernel
theorem d_MD_status_176 : decode prog_14_method_64_code 176 = .ok (.iload_n 3, 1) := by decide +kernel
theorem d_MD_status_177 : decode prog_14_method_64_code 177 = .ok (.aload_n 0, 1) := by decide +kernel
theorem d_MD_status_178 : decode prog_14_method_64_code 178 = .ok (.getfield 7, 3) := by decide +kernel
theorem d_MD_status_181 : decode prog_14_method_64_code 181 = .ok (.irem, 1) := by decide +kernel
theorem d_MD_status_182 : decode prog_14_method_64_code 182 = .ok (.iadd, 1) := by decide +kernel
theorem d_MD_status_183 : decode prog_14_method_64_code 183 = .ok (.iaload, 1) := by decide +kernel
theorem d_MD_status_184 : decode prog_14_method_64_code 184 = .ok (.iadd, 1) := by decide +kernel
theorem d_MD_status_185 : decode prog_14_method_64_code 185 = .ok (.istore_n 2, 1) := by decide +kernel
theorem d_MD_status_186 : decode prog_14_method_64_code 186 = .ok (.iinc 3 1, 3) := by decide +kernel
theorem d_MD_status_189 : decode prog_14_method_64_code 189 = .ok (.goto (-43), 3) := by decide +kernel
theorem d_MD_status_192 : decode prog_14_method_64_code 192 = .ok (.iload_n 2, 1) := by decide +kernel
theorem d_MD_status_193 : decode prog_14_method_64_code 193 = .ok (.ireturn, 1) := by decide +kernel
theorem d_MD_status_194 : decode prog_14_method_64_code 194 = .ok (.iload_n 1, 1) := by decide +kernel
theorem d_MD_status_195 : decode prog_14_method_64_code 195 = .ok (.bipush 11, 2) := by decide +kernel
theorem d_MD_status_197 : decode prog_14_method_64_code 197 = .ok (.bipush 16, 2) := by decide +kernel
theorem d_MD_status_199 : decode prog_14_method_64_code 199 = .ok (.invokestatic 75, 3) := by decide +kernel
theorem d_MD_status_202 : decode prog_14_method_64_code 202 = .ok (.ifCond .eq 15, 3) := by decide +kernel
theorem d_MD_status_205 : decode prog_14_method_64_code 205 = .ok (.aload_n 0, 1) := by decide +kernel
theorem d_MD_status_206 : decode prog_14_method_64_code 206 = .ok (.getfield 30, 3) := by decide +kernel
theorem d_MD_status_209 : decode prog_14_method_64_code 209 = .ok (.iload_n 1, 1) := by decide +kernel
theorem d_MD_status_210 : decode prog_14_method_64_code 210 = .ok (.bipush 10, 2) := by decide +kernel
theorem d_MD_status_212 : decode prog_14_method_64_code 212 = .ok (.isub, 1) := by decide +kernel
theorem d_MD_status_213 : decode prog_14_method_64_code 213 = .ok (.iaload, 1) := by decide +kernel
theorem d_MD_status_214 : decode prog_14_method_64_code 214 = .ok (.goto 5, 3) := by decide +kernel
theorem d_MD_status_217 : decode prog_14_method_64_code 217 = .ok (.bipush (-9), 2) := by decide +kernel
theorem d_MD_status_219 : decode prog_14_method_64_code 219 = .ok (.ireturn, 1) := by decide +kernel
def MD_status_64b (h0 : Nat) (v2 : Int32) (v3 : Int32) (I : jM) (K : Int32 → jM → Prop) (X64 : Int32 × Int32 → Prop) : Prop :=
  (((I h0 0) ≤ v3 → K (v2 / (2 : Int32)) I) ∧ (¬ (I h0 0) ≤ v3 → (vp_in v3 24 ∧ MD_ones (I (jr h0 7) v3.toNatClampNeg) I (fun r_1 => (∀ v2_2 : Int32, v2_2 = (v2 + r_1) → X64 (v2_2, (v3 + 1)))))))
def MD_status_64 (h0 : Nat) (v2 : Int32) (v3 : Int32) (I : jM) (K : Int32 → jM → Prop) : Prop :=
  lp (fun (X64 : Int32 × Int32 → Prop) (s : Int32 × Int32) => MD_status_64b h0 s.1 s.2 I K X64) (v2, v3)
set_option maxRecDepth 100000 in
set_option maxHeartbeats 4000000 in
theorem kb_MD_status_64 {Z : jZ} {E : jE} (C : jC Z E prog_14_method_64_code 4 "OutOrderModel" 1 22) (hr : (jZh Z).sig.returnType = (some .int)) (hE : E.2.2.2 = jLM)  (h0 : Nat) (v2 : Int32) (v3 : Int32) (I : jM) (g_h0 : jOB E 11 h0) {K : Int32 → jM → Prop} {X64 : Int32 × Int32 → Prop} (hX64 : ∀ s : Int32 × Int32, X64 s → jJ Z E 4 (jQi Z E K) 64 [(0, .ref (E.2.2.1 h0)), (2, .int s.1), (3, .int s.2)] [] I) (h : MD_status_64b h0 v2 v3 I K X64) : jJ Z E 4 (jQi Z E K) 64 [(0, .ref (E.2.2.1 h0)), (2, .int v2), (3, .int v3)] [] I := by
  unfold MD_status_64b at h
  refine j_iload_n C d_MD_status_64 rfl 2 rfl ?_
  refine j_aload_n C d_MD_status_65 rfl 0 rfl ?_
  refine fg_MD_7 C g_h0 d_MD_status_66 ?_
  refine j_icmp_ge C d_MD_status_69 (tgt := 90) (by decide) (fun c69 => ?_) (fun c69 => ?_)
  · have h := h.1 c69
    refine j_iload_n C d_MD_status_90 rfl 1 rfl ?_
    refine j_iconst C d_MD_status_91 ic_2 ?_
    refine j_idiv C d_MD_status_92 (by decide) ?_
    exact j_iret C hr d_MD_status_93 h
  · have h := h.2 c69
    refine j_iload_n C d_MD_status_72 rfl 1 rfl ?_
    refine j_aload_n C d_MD_status_73 rfl 0 rfl ?_
    refine fg_MD_33 C g_h0 d_MD_status_74 ?_
    refine j_iload_n C d_MD_status_77 rfl 2 rfl ?_
    obtain ⟨hi, h⟩ := h
    refine j_iaload C (sh_MD_7 hE g_h0) hi d_MD_status_78 ?_
    refine j_callSi (As := [.int (I (jr h0 7) v3.toNatClampNeg)]) C cw_MD_98 w_866 rfl rfl (by decide) (by decide) (Nat.le_of_ble_eq_true rfl) d_MD_status_79 (s_MD_ones C.ok  h) (fun r_1 I2 h => ?_)
    obtain ⟨rfl, h⟩ := h
    refine j_iadd C d_MD_status_82 ?_
    refine j_topi (fun v2_2 ev2_2 => ?_)
    have h := h v2_2 ev2_2
    refine j_istore_n C d_MD_status_83 rfl (by decide) (lv' := [(2, .int v2_2), (0, .ref (E.2.2.1 h0)), (3, .int v3)]) rfl ?_
    refine j_iinc C d_MD_status_84 2 rfl (v := (v3 + 1)) rfl (by decide) (lv' := [(3, .int (v3 + 1)), (2, .int v2_2), (0, .ref (E.2.2.1 h0))]) rfl ?_
    refine j_goto C d_MD_status_87 (tgt := 64) (by decide) ?_
    refine j_lv [2, 1, 0] rfl ?_
    exact hX64 (v2_2, (v3 + 1)) h
theorem k_MD_status_64 {Z : jZ} {E : jE} (C : jC Z E prog_14_method_64_code 4 "OutOrderModel" 1 22) (hr : (jZh Z).sig.returnType = (some .int)) (hE : E.2.2.2 = jLM)  (h0 : Nat) (v2 : Int32) (v3 : Int32) (I : jM) (g_h0 : jOB E 11 h0) {K : Int32 → jM → Prop} (h : MD_status_64 h0 v2 v3 I K) : jJ Z E 4 (jQi Z E K) 64 [(0, .ref (E.2.2.1 h0)), (2, .int v2), (3, .int v3)] [] I := by
  unfold MD_status_64 at h
  exact h (fun s => jJ Z E 4 (jQi Z E K) 64 [(0, .ref (E.2.2.1 h0)), (2, .int s.1), (3, .int s.2)] [] I) (fun s hs => kb_MD_status_64 C hr hE h0 s.1 s.2 I g_h0 (fun s2 h2 => h2) hs)
def MD_status_96b (h0 : Nat) (v2 : Int32) (v3 : Int32) (I : jM) (K : Int32 → jM → Prop) (X96 : Int32 × Int32 → Prop) : Prop :=
  (((I h0 0) ≤ v3 → K v2 I) ∧ (¬ (I h0 0) ≤ v3 → (vp_in v3 24 ∧ (((I (jr h0 3) v3.toNatClampNeg) = 0 → (∀ v2_1 : Int32, v2_1 = (v2 + (0 : Int32)) → X96 (v2_1, (v3 + 1)))) ∧ (¬ (I (jr h0 3) v3.toNatClampNeg) = 0 → (∀ v2_2 : Int32, v2_2 = (v2 + (1 : Int32)) → X96 (v2_2, (v3 + 1))))))))
def MD_status_96 (h0 : Nat) (v2 : Int32) (v3 : Int32) (I : jM) (K : Int32 → jM → Prop) : Prop :=
  lp (fun (X96 : Int32 × Int32 → Prop) (s : Int32 × Int32) => MD_status_96b h0 s.1 s.2 I K X96) (v2, v3)
set_option maxRecDepth 100000 in
set_option maxHeartbeats 4000000 in
theorem kb_MD_status_96 {Z : jZ} {E : jE} (C : jC Z E prog_14_method_64_code 4 "OutOrderModel" 1 22) (hr : (jZh Z).sig.returnType = (some .int)) (hE : E.2.2.2 = jLM)  (h0 : Nat) (v2 : Int32) (v3 : Int32) (I : jM) (g_h0 : jOB E 11 h0) {K : Int32 → jM → Prop} {X96 : Int32 × Int32 → Prop} (hX96 : ∀ s : Int32 × Int32, X96 s → jJ Z E 4 (jQi Z E K) 96 [(0, .ref (E.2.2.1 h0)), (2, .int s.1), (3, .int s.2)] [] I) (h : MD_status_96b h0 v2 v3 I K X96) : jJ Z E 4 (jQi Z E K) 96 [(0, .ref (E.2.2.1 h0)), (2, .int v2), (3, .int v3)] [] I := by
  unfold MD_status_96b at h
  refine j_iload_n C d_MD_status_96 rfl 2 rfl ?_
  refine j_aload_n C d_MD_status_97 rfl 0 rfl ?_
  refine fg_MD_7 C g_h0 d_MD_status_98 ?_
  refine j_icmp_ge C d_MD_status_101 (tgt := 127) (by decide) (fun c101 => ?_) (fun c101 => ?_)
  · have h := h.1 c101
    refine j_iload_n C d_MD_status_127 rfl 1 rfl ?_
    exact j_iret C hr d_MD_status_128 h
  · have h := h.2 c101
    refine j_iload_n C d_MD_status_104 rfl 1 rfl ?_
    refine j_aload_n C d_MD_status_105 rfl 0 rfl ?_
    refine fg_MD_20 C g_h0 d_MD_status_106 ?_
    refine j_iload_n C d_MD_status_109 rfl 2 rfl ?_
    obtain ⟨hi, h⟩ := h
    refine j_zaload C (sh_MD_3 hE g_h0) hi d_MD_status_110 ?_
    refine j_if_eq C d_MD_status_111 (tgt := 118) (by decide) (fun c111 => ?_) (fun c111 => ?_)
    · have h := h.1 c111
      refine j_iconst C d_MD_status_118 ic_0 ?_
      refine j_iadd C d_MD_status_119 ?_
      refine j_topi (fun v2_1 ev2_1 => ?_)
      have h := h v2_1 ev2_1
      refine j_istore_n C d_MD_status_120 rfl (by decide) (lv' := [(2, .int v2_1), (0, .ref (E.2.2.1 h0)), (3, .int v3)]) rfl ?_
      refine j_iinc C d_MD_status_121 2 rfl (v := (v3 + 1)) rfl (by decide) (lv' := [(3, .int (v3 + 1)), (2, .int v2_1), (0, .ref (E.2.2.1 h0))]) rfl ?_
      refine j_goto C d_MD_status_124 (tgt := 96) (by decide) ?_
      refine j_lv [2, 1, 0] rfl ?_
      exact hX96 (v2_1, (v3 + 1)) h
    · have h := h.2 c111
      refine j_iconst C d_MD_status_114 ic_1 ?_
      refine j_goto C d_MD_status_115 (tgt := 119) (by decide) ?_
      refine j_iadd C d_MD_status_119 ?_
      refine j_topi (fun v2_2 ev2_2 => ?_)
      have h := h v2_2 ev2_2
      refine j_istore_n C d_MD_status_120 rfl (by decide) (lv' := [(2, .int v2_2), (0, .ref (E.2.2.1 h0)), (3, .int v3)]) rfl ?_
      refine j_iinc C d_MD_status_121 2 rfl (v := (v3 + 1)) rfl (by decide) (lv' := [(3, .int (v3 + 1)), (2, .int v2_2), (0, .ref (E.2.2.1 h0))]) rfl ?_
      refine j_goto C d_MD_status_124 (tgt := 96) (by decide) ?_
      refine j_lv [2, 1, 0] rfl ?_
      exact hX96 (v2_2, (v3 + 1)) h
theorem k_MD_status_96 {Z : jZ} {E : jE} (C : jC Z E prog_14_method_64_code 4 "OutOrderModel" 1 22) (hr : (jZh Z).sig.returnType = (some .int)) (hE : E.2.2.2 = jLM)  (h0 : Nat) (v2 : Int32) (v3 : Int32) (I : jM) (g_h0 : jOB E 11 h0) {K : Int32 → jM → Prop} (h : MD_status_96 h0 v2 v3 I K) : jJ Z E 4 (jQi Z E K) 96 [(0, .ref (E.2.2.1 h0)), (2, .int v2), (3, .int v3)] [] I := by
  unfold MD_status_96 at h
  exact h (fun s => jJ Z E 4 (jQi Z E K) 96 [(0, .ref (E.2.2.1 h0)), (2, .int s.1), (3, .int s.2)] [] I) (fun s hs => kb_MD_status_96 C hr hE h0 s.1 s.2 I g_h0 (fun s2 h2 => h2) hs)
def MD_status_146b (h0 : Nat) (v2 : Int32) (v3 : Int32) (I : jM) (K : Int32 → jM → Prop) (X146 : Int32 × Int32 → Prop) : Prop :=
  ((((I h0 0) * (I h0 0)) ≤ v3 → K v2 I) ∧ (¬ ((I h0 0) * (I h0 0)) ≤ v3 → (¬ (I h0 0) = 0 ∧ (¬ (I h0 0) = 0 ∧ (vp_in (((24 : Int32) * (v3 / (I h0 0))) + (v3 - v3 / (I h0 0) * (I h0 0))) 576 ∧ (∀ v2_1 : Int32, v2_1 = (((31 : Int32) * v2) + (I (jr h0 2) (((24 : Int32) * (v3 / (I h0 0))) + (v3 - v3 / (I h0 0) * (I h0 0))).toNatClampNeg)) → X146 (v2_1, (v3 + 1))))))))
def MD_status_146 (h0 : Nat) (v2 : Int32) (v3 : Int32) (I : jM) (K : Int32 → jM → Prop) : Prop :=
  lp (fun (X146 : Int32 × Int32 → Prop) (s : Int32 × Int32) => MD_status_146b h0 s.1 s.2 I K X146) (v2, v3)
set_option maxRecDepth 100000 in
set_option maxHeartbeats 4000000 in
theorem kb_MD_status_146 {Z : jZ} {E : jE} (C : jC Z E prog_14_method_64_code 4 "OutOrderModel" 1 22) (hr : (jZh Z).sig.returnType = (some .int)) (hE : E.2.2.2 = jLM)  (h0 : Nat) (v2 : Int32) (v3 : Int32) (I : jM) (g_h0 : jOB E 11 h0) {K : Int32 → jM → Prop} {X146 : Int32 × Int32 → Prop} (hX146 : ∀ s : Int32 × Int32, X146 s → jJ Z E 4 (jQi Z E K) 146 [(0, .ref (E.2.2.1 h0)), (2, .int s.1), (3, .int s.2)] [] I) (h : MD_status_146b h0 v2 v3 I K X146) : jJ Z E 4 (jQi Z E K) 146 [(0, .ref (E.2.2.1 h0)), (2, .int v2), (3, .int v3)] [] I := by
  unfold MD_status_146b at h
  refine j_iload_n C d_MD_status_146 rfl 2 rfl ?_
  refine j_aload_n C d_MD_status_147 rfl 0 rfl ?_
  refine fg_MD_7 C g_h0 d_MD_status_148 ?_
  refine j_aload_n C d_MD_status_151 rfl 0 rfl ?_
  refine fg_MD_7 C g_h0 d_MD_status_152 ?_
  refine j_imul C d_MD_status_155 ?_
  refine j_icmp_ge C d_MD_status_156 (tgt := 192) (by decide) (fun c156 => ?_) (fun c156 => ?_)
  · have h := h.1 c156
    refine j_iload_n C d_MD_status_192 rfl 1 rfl ?_
    exact j_iret C hr d_MD_status_193 h
  · have h := h.2 c156
    refine j_bipush C d_MD_status_159 ib_31 ?_
    refine j_iload_n C d_MD_status_161 rfl 1 rfl ?_
    refine j_imul C d_MD_status_162 ?_
    refine j_aload_n C d_MD_status_163 rfl 0 rfl ?_
    refine fg_MD_16 C g_h0 d_MD_status_164 ?_
    refine j_bipush C d_MD_status_167 ib_24 ?_
    refine j_iload_n C d_MD_status_169 rfl 2 rfl ?_
    refine j_aload_n C d_MD_status_170 rfl 0 rfl ?_
    refine fg_MD_7 C g_h0 d_MD_status_171 ?_
    obtain ⟨hn, h⟩ := h
    refine j_idiv C d_MD_status_174 hn ?_
    refine j_imul C d_MD_status_175 ?_
    refine j_iload_n C d_MD_status_176 rfl 2 rfl ?_
    refine j_aload_n C d_MD_status_177 rfl 0 rfl ?_
    refine fg_MD_7 C g_h0 d_MD_status_178 ?_
    obtain ⟨hn, h⟩ := h
    refine j_irem C d_MD_status_181 hn ?_
    refine j_iadd C d_MD_status_182 ?_
    obtain ⟨hi, h⟩ := h
    refine j_iaload C (sh_MD_2 hE g_h0) hi d_MD_status_183 ?_
    refine j_iadd C d_MD_status_184 ?_
    refine j_topi (fun v2_1 ev2_1 => ?_)
    have h := h v2_1 ev2_1
    refine j_istore_n C d_MD_status_185 rfl (by decide) (lv' := [(2, .int v2_1), (0, .ref (E.2.2.1 h0)), (3, .int v3)]) rfl ?_
    refine j_iinc C d_MD_status_186 2 rfl (v := (v3 + 1)) rfl (by decide) (lv' := [(3, .int (v3 + 1)), (2, .int v2_1), (0, .ref (E.2.2.1 h0))]) rfl ?_
    refine j_goto C d_MD_status_189 (tgt := 146) (by decide) ?_
    refine j_lv [2, 1, 0] rfl ?_
    exact hX146 (v2_1, (v3 + 1)) h
theorem k_MD_status_146 {Z : jZ} {E : jE} (C : jC Z E prog_14_method_64_code 4 "OutOrderModel" 1 22) (hr : (jZh Z).sig.returnType = (some .int)) (hE : E.2.2.2 = jLM)  (h0 : Nat) (v2 : Int32) (v3 : Int32) (I : jM) (g_h0 : jOB E 11 h0) {K : Int32 → jM → Prop} (h : MD_status_146 h0 v2 v3 I K) : jJ Z E 4 (jQi Z E K) 146 [(0, .ref (E.2.2.1 h0)), (2, .int v2), (3, .int v3)] [] I := by
  unfold MD_status_146 at h
  exact h (fun s => jJ Z E 4 (jQi Z E K) 146 [(0, .ref (E.2.2.1 h0)), (2, .int s.1), (3, .int s.2)] [] I) (fun s hs => kb_MD_status_146 C hr hE h0 s.1 s.2 I g_h0 (fun s2 h2 => h2) hs)
/-- OutOrderModel.status(I)I -/
def MD_status (h0 : Nat) (v1 : Int32) (I : jM) (K : Int32 → jM → Prop) : Prop :=
  ((v1 = 0 → K (I h0 0) I) ∧ (v1 = 1 → K (I h0 1) I) ∧ (v1 = 2 → MD_beginNet h0 I (fun I_2 => MD_status_64 h0 (0 : Int32) (0 : Int32) I_2 K)) ∧ (v1 = 3 → MD_status_96 h0 (0 : Int32) (0 : Int32) I K) ∧ (v1 = 4 → K (I h0 15) I) ∧ (v1 = 5 → K (I h0 18) I) ∧ (v1 = 6 → K (I h0 19) I) ∧ (v1 = 7 → MD_status_146 h0 (0 : Int32) (0 : Int32) I K) ∧ (¬ v1 = 0 → ¬ v1 = 1 → ¬ v1 = 2 → ¬ v1 = 3 → ¬ v1 = 4 → ¬ v1 = 5 → ¬ v1 = 6 → ¬ v1 = 7 → MD_in v1 (11 : Int32) (16 : Int32) I (fun r_3 => ((r_3 = 0 → K (-9 : Int32) I) ∧ (¬ r_3 = 0 → (vp_in (v1 - (10 : Int32)) 7 ∧ K (I (jr h0 6) (v1 - (10 : Int32)).toNatClampNeg) I))))))
set_option maxRecDepth 100000 in
set_option maxHeartbeats 4000000 in
theorem s_MD_status {l : Launch} {E : jE} (ok : jOK E) (hE : E.2.2.2 = jLM) {h0 : Nat} {v1 : Int32} (g_h0 : jOB E 11 h0) {I : jM} {K : Int32 → jM → Prop} (h : MD_status h0 v1 I K) : jSi l E ⟨"OutOrderModel", "status", "(I)I"⟩ prog_14_method_64_code 4 (some .int) 1 22 [.ref (E.2.2.1 h0), .int v1] I K := by
  refine jS_ofF (own := "OutOrderModel") (by decide +kernel) rfl ok (Nat.le_of_ble_eq_true rfl) (fun Z _ C hr => ?_)
  show jJ Z E 4 (jQi Z E K) 0 [(0, .ref (E.2.2.1 h0)), (1, .int v1)] [] I
  unfold MD_status at h
  refine j_iconst C d_MD_status_0 ic_0 ?_
  refine j_istore_n C d_MD_status_1 rfl (by decide) (lv' := [(2, .int (0 : Int32)), (0, .ref (E.2.2.1 h0)), (1, .int v1)]) rfl ?_
  refine j_iload_n C d_MD_status_2 rfl 2 rfl ?_
  by_cases c3_0 : v1 = 0
  · have h := h.1 c3_0
    refine j_tableIn C d_MD_status_3 (off := 45) (tgt := 48) (by rw [c3_0]; decide) (by rw [c3_0]; decide) (by rw [c3_0]; rfl) (by decide) ?_
    refine j_aload_n C d_MD_status_48 rfl 1 rfl ?_
    refine fg_MD_7 C g_h0 d_MD_status_49 ?_
    exact j_iret C hr d_MD_status_52 h
  by_cases c3_1 : v1 = 1
  · have h := h.2.1 c3_1
    refine j_tableIn C d_MD_status_3 (off := 50) (tgt := 53) (by rw [c3_1]; decide) (by rw [c3_1]; decide) (by rw [c3_1]; rfl) (by decide) ?_
    refine j_aload_n C d_MD_status_53 rfl 1 rfl ?_
    refine fg_MD_13 C g_h0 d_MD_status_54 ?_
    exact j_iret C hr d_MD_status_57 h
  by_cases c3_2 : v1 = 2
  · have h := h.2.2.1 c3_2
    refine j_tableIn C d_MD_status_3 (off := 55) (tgt := 58) (by rw [c3_2]; decide) (by rw [c3_2]; decide) (by rw [c3_2]; rfl) (by decide) ?_
    refine j_aload_n C d_MD_status_58 rfl 1 rfl ?_
    refine j_callVv (As := []) C jcl_MD cw_MD_100 w_821 ws_25 g_h0 rfl rfl (by decide) (by decide) (Nat.le_of_ble_eq_true rfl) d_MD_status_59 (s_MD_beginNet C.ok hE g_h0 h) (fun I_2 h => ?_)
    refine j_iconst C d_MD_status_62 ic_0 ?_
    refine j_istore_n C d_MD_status_63 rfl (by decide) (lv' := [(3, .int (0 : Int32)), (2, .int (0 : Int32)), (0, .ref (E.2.2.1 h0)), (1, .int v1)]) rfl ?_
    refine j_lv [2, 1, 0] rfl ?_
    exact k_MD_status_64 C hr hE h0 (0 : Int32) (0 : Int32) I_2 g_h0 h
  by_cases c3_3 : v1 = 3
  · have h := h.2.2.2.1 c3_3
    refine j_tableIn C d_MD_status_3 (off := 91) (tgt := 94) (by rw [c3_3]; decide) (by rw [c3_3]; decide) (by rw [c3_3]; rfl) (by decide) ?_
    refine j_iconst C d_MD_status_94 ic_0 ?_
    refine j_istore_n C d_MD_status_95 rfl (by decide) (lv' := [(3, .int (0 : Int32)), (2, .int (0 : Int32)), (0, .ref (E.2.2.1 h0)), (1, .int v1)]) rfl ?_
    refine j_lv [2, 1, 0] rfl ?_
    exact k_MD_status_96 C hr hE h0 (0 : Int32) (0 : Int32) I g_h0 h
  by_cases c3_4 : v1 = 4
  · have h := h.2.2.2.2.1 c3_4
    refine j_tableIn C d_MD_status_3 (off := 126) (tgt := 129) (by rw [c3_4]; decide) (by rw [c3_4]; decide) (by rw [c3_4]; rfl) (by decide) ?_
    refine j_aload_n C d_MD_status_129 rfl 1 rfl ?_
    refine fg_MD_161 C g_h0 d_MD_status_130 ?_
    exact j_iret C hr d_MD_status_133 h
  by_cases c3_5 : v1 = 5
  · have h := h.2.2.2.2.2.1 c3_5
    refine j_tableIn C d_MD_status_3 (off := 131) (tgt := 134) (by rw [c3_5]; decide) (by rw [c3_5]; decide) (by rw [c3_5]; rfl) (by decide) ?_
    refine j_aload_n C d_MD_status_134 rfl 1 rfl ?_
    refine fg_MD_176 C g_h0 d_MD_status_135 ?_
    exact j_iret C hr d_MD_status_138 h
  by_cases c3_6 : v1 = 6
  · have h := h.2.2.2.2.2.2.1 c3_6
    refine j_tableIn C d_MD_status_3 (off := 136) (tgt := 139) (by rw [c3_6]; decide) (by rw [c3_6]; decide) (by rw [c3_6]; rfl) (by decide) ?_
    refine j_aload_n C d_MD_status_139 rfl 1 rfl ?_
    refine fg_MD_60 C g_h0 d_MD_status_140 ?_
    exact j_iret C hr d_MD_status_143 h
  by_cases c3_7 : v1 = 7
  · have h := h.2.2.2.2.2.2.2.1 c3_7
    refine j_tableIn C d_MD_status_3 (off := 141) (tgt := 144) (by rw [c3_7]; decide) (by rw [c3_7]; decide) (by rw [c3_7]; rfl) (by decide) ?_
    refine j_iconst C d_MD_status_144 ic_0 ?_
    refine j_istore_n C d_MD_status_145 rfl (by decide) (lv' := [(3, .int (0 : Int32)), (2, .int (0 : Int32)), (0, .ref (E.2.2.1 h0)), (1, .int v1)]) rfl ?_
    refine j_lv [2, 1, 0] rfl ?_
    exact k_MD_status_146 C hr hE h0 (0 : Int32) (0 : Int32) I g_h0 h
  have h := h.2.2.2.2.2.2.2.2 c3_0 c3_1 c3_2 c3_3 c3_4 c3_5 c3_6 c3_7
  refine j_tableOut C d_MD_status_3 (tgt := 194) (by have n0 := sw_ne (n := 0) (by decide) c3_0; have n1 := sw_ne (n := 1) (by decide) c3_1; have n2 := sw_ne (n := 2) (by decide) c3_2; have n3 := sw_ne (n := 3) (by decide) c3_3; have n4 := sw_ne (n := 4) (by decide) c3_4; have n5 := sw_ne (n := 5) (by decide) c3_5; have n6 := sw_ne (n := 6) (by decide) c3_6; have n7 := sw_ne (n := 7) (by decide) c3_7; omega) (by decide) ?_
  refine j_iload_n C d_MD_status_194 rfl 2 rfl ?_
  refine j_bipush C d_MD_status_195 ib_11 ?_
  refine j_bipush C d_MD_status_197 ib_16 ?_
  refine j_callSi (As := [.int v1, .int (11 : Int32), .int (16 : Int32)]) C cw_MD_75 w_832 rfl rfl (by decide) (by decide) (Nat.le_of_ble_eq_true rfl) d_MD_status_199 (s_MD_in C.ok  h) (fun r_3 I2 h => ?_)
  obtain ⟨rfl, h⟩ := h
  refine j_if_eq C d_MD_status_202 (tgt := 217) (by decide) (fun c202 => ?_) (fun c202 => ?_)
  · have h := h.1 c202
    refine j_bipush C d_MD_status_217 ib_m9 ?_
    exact j_iret C hr d_MD_status_219 h
  · have h := h.2 c202
    refine j_aload_n C d_MD_status_205 rfl 1 rfl ?_
    refine fg_MD_30 C g_h0 d_MD_status_206 ?_
    refine j_iload_n C d_MD_status_209 rfl 2 rfl ?_
    refine j_bipush C d_MD_status_210 ib_10 ?_
    refine j_isub C d_MD_status_212 ?_
    obtain ⟨hi, h⟩ := h
    refine j_iaload C (sh_MD_6 hE g_h0) hi d_MD_status_213 ?_
    refine j_goto C d_MD_status_214 (tgt := 219) (by decide) ?_
    exact j_iret C hr d_MD_status_219 h
theorem d_MD_swap_0 : decode prog_14_method_26_code 0 = .ok (.aload_n 0, 1) := by decide +kernel
theorem d_MD_swap_1 : decode prog_14_method_26_code 1 = .ok (.iload_n 1, 1) := by decide +kernel
theorem d_MD_swap_2 : decode prog_14_method_26_code 2 = .ok (.invokevirtual 90, 3) := by decide +kernel
theorem d_MD_swap_5 : decode prog_14_method_26_code 5 = .ok (.ifCond .eq 11, 3) := by decide +kernel
theorem d_MD_swap_8 : decode prog_14_method_26_code 8 = .ok (.aload_n 0, 1) := by decide +kernel
theorem d_MD_swap_9 : decode prog_14_method_26_code 9 = .ok (.iload_n 2, 1) := by decide +kernel
theorem d_MD_swap_10 : decode prog_14_method_26_code 10 = .ok (.invokevirtual 90, 3) := by decide +kernel
theorem d_MD_swap_13 : decode prog_14_method_26_code 13 = .ok (.ifCond .ne 9, 3) := by decide +kernel
theorem d_MD_swap_16 : decode prog_14_method_26_code 16 = .ok (.aload_n 0, 1) := by decide +kernel
theorem d_MD_swap_17 : decode prog_14_method_26_code 17 = .ok (.iconst (-1), 1) := by decide +kernel
theorem d_MD_swap_18 : decode prog_14_method_26_code 18 = .ok (.invokevirtual 79, 3) := by decide +kernel
theorem d_MD_swap_21 : decode prog_14_method_26_code 21 = .ok (.ireturn, 1) := by decide +kernel
theorem d_MD_swap_22 : decode prog_14_method_26_code 22 = .ok (.aload_n 0, 1) := by decide +kernel
theorem d_MD_swap_23 : decode prog_14_method_26_code 23 = .ok (.getfield 24, 3) := by decide +kernel
theorem d_MD_swap_26 : decode prog_14_method_26_code 26 = .ok (.iload_n 1, 1) := by decide +kernel
theorem d_MD_swap_27 : decode prog_14_method_26_code 27 = .ok (.iaload, 1) := by decide +kernel
theorem d_MD_swap_28 : decode prog_14_method_26_code 28 = .ok (.istore_n 3, 1) := by decide +kernel
theorem d_MD_swap_29 : decode prog_14_method_26_code 29 = .ok (.aload_n 0, 1) := by decide +kernel
theorem d_MD_swap_30 : decode prog_14_method_26_code 30 = .ok (.getfield 24, 3) := by decide +kernel
theorem d_MD_swap_33 : decode prog_14_method_26_code 33 = .ok (.iload_n 1, 1) := by decide +kernel
theorem d_MD_swap_34 : decode prog_14_method_26_code 34 = .ok (.aload_n 0, 1) := by decide +kernel
theorem d_MD_swap_35 : decode prog_14_method_26_code 35 = .ok (.getfield 24, 3) := by decide +kernel
theorem d_MD_swap_38 : decode prog_14_method_26_code 38 = .ok (.iload_n 2, 1) := by decide +kernel
theorem d_MD_swap_39 : decode prog_14_method_26_code 39 = .ok (.iaload, 1) := by decide +kernel
theorem d_MD_swap_40 : decode prog_14_method_26_code 40 = .ok (.iastore, 1) := by decide +kernel
theorem d_MD_swap_41 : decode prog_14_method_26_code 41 = .ok (.aload_n 0, 1) := by decide +kernel
theorem d_MD_swap_42 : decode prog_14_method_26_code 42 = .ok (.getfield 24, 3) := by decide +kernel
theorem d_MD_swap_45 : decode prog_14_method_26_code 45 = .ok (.iload_n 2, 1) := by decide +kernel
theorem d_MD_swap_46 : decode prog_14_method_26_code 46 = .ok (.iload_n 3, 1) := by decide +kernel
theorem d_MD_swap_47 : decode prog_14_method_26_code 47 = .ok (.iastore, 1) := by decide +kernel
theorem d_MD_swap_48 : decode prog_14_method_26_code 48 = .ok (.aload_n 0, 1) := by decide +kernel
theorem d_MD_swap_49 : decode prog_14_method_26_code 49 = .ok (.invokevirtual 83, 3) := by decide +kernel
theorem d_MD_swap_52 : decode prog_14_method_26_code 52 = .ok (.iconst 1, 1) := by decide +kernel
theorem d_MD_swap_53 : decode prog_14_method_26_code 53 = .ok (.ireturn, 1) := by decide +kernel
def MD_swap_16 (h0 : Nat) (I : jM) (K : Int32 → jM → Prop) : Prop :=
  MD_refuse h0 (-1 : Int32) I (fun r_1 I_2 => K r_1 I_2)
set_option maxRecDepth 100000 in
set_option maxHeartbeats 4000000 in
theorem k_MD_swap_16 {Z : jZ} {E : jE} (C : jC Z E prog_14_method_26_code 4 "OutOrderModel" 2 43) (hr : (jZh Z).sig.returnType = (some .int)) (hE : E.2.2.2 = jLM)  (h0 : Nat) (I : jM) (g_h0 : jOB E 11 h0) {K : Int32 → jM → Prop} (h : MD_swap_16 h0 I K) : jJ Z E 4 (jQi Z E K) 16 [(0, .ref (E.2.2.1 h0))] [] I := by
  unfold MD_swap_16 at h
  refine j_aload_n C d_MD_swap_16 rfl 0 rfl ?_
  refine j_iconst C d_MD_swap_17 ic_m1 ?_
  refine j_callVi (As := [.int (-1 : Int32)]) C jcl_MD cw_MD_79 w_809 ws_23 g_h0 rfl rfl (by decide) (by decide) (Nat.le_of_ble_eq_true rfl) d_MD_swap_18 (s_MD_refuse C.ok hE g_h0 h) (fun r_1 I_2 h => ?_)
  exact j_iret C hr d_MD_swap_21 h
/-- OutOrderModel.swap(II)I -/
def MD_swap (h0 : Nat) (v1 : Int32) (v2 : Int32) (I : jM) (K : Int32 → jM → Prop) : Prop :=
  MD_isUnknown h0 v1 I (fun r_1 => ((r_1 = 0 → MD_swap_16 h0 I K) ∧ (¬ r_1 = 0 → MD_isUnknown h0 v2 I (fun r_2 => ((¬ r_2 = 0 → (vp_in v1 24 ∧ (∀ v3_3 : Int32, v3_3 = (I (jr h0 4) v1.toNatClampNeg) → (vp_in v2 24 ∧ (vp_in v1 24 ∧ (∀ I_4 : jM, I_4 = jwr I (jr h0 4) v1.toNatClampNeg (I (jr h0 4) v2.toNatClampNeg) → (vp_in v2 24 ∧ (∀ I_5 : jM, I_5 = jwr I_4 (jr h0 4) v2.toNatClampNeg v3_3 → MD_notWorked h0 I_5 (fun I_7 => K (1 : Int32) I_7))))))))) ∧ (r_2 = 0 → MD_swap_16 h0 I K))))))
set_option maxRecDepth 100000 in
set_option maxHeartbeats 4000000 in
theorem s_MD_swap {l : Launch} {E : jE} (ok : jOK E) (hE : E.2.2.2 = jLM) {h0 : Nat} {v1 : Int32} {v2 : Int32} (g_h0 : jOB E 11 h0) {I : jM} {K : Int32 → jM → Prop} (h : MD_swap h0 v1 v2 I K) : jSi l E ⟨"OutOrderModel", "swap", "(II)I"⟩ prog_14_method_26_code 4 (some .int) 2 43 [.ref (E.2.2.1 h0), .int v1, .int v2] I K := by
  refine jS_ofF (own := "OutOrderModel") (by decide +kernel) rfl ok (Nat.le_of_ble_eq_true rfl) (fun Z _ C hr => ?_)
  show jJ Z E 4 (jQi Z E K) 0 [(0, .ref (E.2.2.1 h0)), (1, .int v1), (2, .int v2)] [] I
  unfold MD_swap at h
  refine j_aload_n C d_MD_swap_0 rfl 0 rfl ?_
  refine j_iload_n C d_MD_swap_1 rfl 1 rfl ?_
  refine j_callVi (As := [.int v1]) C jcl_MD cw_MD_90 w_829 ws_26 g_h0 rfl rfl (by decide) (by decide) (Nat.le_of_ble_eq_true rfl) d_MD_swap_2 (s_MD_isUnknown C.ok g_h0 h) (fun r_1 I2 h => ?_)
  obtain ⟨rfl, h⟩ := h
  refine j_if_eq C d_MD_swap_5 (tgt := 16) (by decide) (fun c5 => ?_) (fun c5 => ?_)
  · have h := h.1 c5
    refine j_lv [0] rfl ?_
    exact k_MD_swap_16 C hr hE h0 I g_h0 h
  · have h := h.2 c5
    refine j_aload_n C d_MD_swap_8 rfl 0 rfl ?_
    refine j_iload_n C d_MD_swap_9 rfl 2 rfl ?_
    refine j_callVi (As := [.int v2]) C jcl_MD cw_MD_90 w_829 ws_26 g_h0 rfl rfl (by decide) (by decide) (Nat.le_of_ble_eq_true rfl) d_MD_swap_10 (s_MD_isUnknown C.ok g_h0 h) (fun r_2 I2 h => ?_)
    obtain ⟨rfl, h⟩ := h
    refine j_if_ne C d_MD_swap_13 (tgt := 22) (by decide) (fun c13 => ?_) (fun c13 => ?_)
    · have h := h.1 c13
      refine j_aload_n C d_MD_swap_22 rfl 0 rfl ?_
      refine fg_MD_24 C g_h0 d_MD_swap_23 ?_
      refine j_iload_n C d_MD_swap_26 rfl 1 rfl ?_
      obtain ⟨hi, h⟩ := h
      refine j_iaload C (sh_MD_4 hE g_h0) hi d_MD_swap_27 ?_
      refine j_topi (fun v3_3 ev3_3 => ?_)
      have h := h v3_3 ev3_3
      refine j_istore_n C d_MD_swap_28 rfl (by decide) (lv' := [(3, .int v3_3), (0, .ref (E.2.2.1 h0)), (1, .int v1), (2, .int v2)]) rfl ?_
      refine j_aload_n C d_MD_swap_29 rfl 1 rfl ?_
      refine fg_MD_24 C g_h0 d_MD_swap_30 ?_
      refine j_iload_n C d_MD_swap_33 rfl 2 rfl ?_
      refine j_aload_n C d_MD_swap_34 rfl 1 rfl ?_
      refine fg_MD_24 C g_h0 d_MD_swap_35 ?_
      refine j_iload_n C d_MD_swap_38 rfl 3 rfl ?_
      obtain ⟨hi, h⟩ := h
      refine j_iaload C (sh_MD_4 hE g_h0) hi d_MD_swap_39 ?_
      obtain ⟨hi, h⟩ := h
      refine j_iastore C (sh_MD_4 hE g_h0) hi d_MD_swap_40 ?_
      have h := h _ rfl
      generalize eI_4 : (jwr I (jr h0 4) v1.toNatClampNeg (I (jr h0 4) v2.toNatClampNeg) : jM) = I_4 at h ⊢
      refine j_aload_n C d_MD_swap_41 rfl 1 rfl ?_
      refine fg_MD_24 C g_h0 d_MD_swap_42 ?_
      refine j_iload_n C d_MD_swap_45 rfl 3 rfl ?_
      refine j_iload_n C d_MD_swap_46 rfl 0 rfl ?_
      obtain ⟨hi, h⟩ := h
      refine j_iastore C (sh_MD_4 hE g_h0) hi d_MD_swap_47 ?_
      have h := h _ rfl
      generalize eI_5 : (jwr I_4 (jr h0 4) v2.toNatClampNeg v3_3 : jM) = I_5 at h ⊢
      refine j_aload_n C d_MD_swap_48 rfl 1 rfl ?_
      refine j_callVv (As := []) C jcl_MD cw_MD_83 w_813 ws_24 g_h0 rfl rfl (by decide) (by decide) (Nat.le_of_ble_eq_true rfl) d_MD_swap_49 (s_MD_notWorked C.ok g_h0 h) (fun I_7 h => ?_)
      refine j_iconst C d_MD_swap_52 ic_1 ?_
      exact j_iret C hr d_MD_swap_53 h
    · have h := h.2 c13
      refine j_lv [0] rfl ?_
      exact k_MD_swap_16 C hr hE h0 I g_h0 h
theorem d_MD_table_0 : decode prog_14_method_8_code 0 = .ok (.iload_n 1, 1) := by decide +kernel
theorem d_MD_table_1 : decode prog_14_method_8_code 1 = .ok (.iconst 1, 1) := by decide +kernel
theorem d_MD_table_2 : decode prog_14_method_8_code 2 = .ok (.if_icmp .lt 8, 3) := by decide +kernel
theorem d_MD_table_5 : decode prog_14_method_8_code 5 = .ok (.iload_n 2, 1) := by decide +kernel
theorem d_MD_table_6 : decode prog_14_method_8_code 6 = .ok (.iconst 2, 1) := by decide +kernel
theorem d_MD_table_7 : decode prog_14_method_8_code 7 = .ok (.if_icmp .ge 10, 3) := by decide +kernel
theorem d_MD_table_10 : decode prog_14_method_8_code 10 = .ok (.aload_n 0, 1) := by decide +kernel
theorem d_MD_table_11 : decode prog_14_method_8_code 11 = .ok (.bipush (-4), 2) := by decide +kernel
theorem d_MD_table_13 : decode prog_14_method_8_code 13 = .ok (.invokevirtual 79, 3) := by decide +kernel
theorem d_MD_table_16 : decode prog_14_method_8_code 16 = .ok (.ireturn, 1) := by decide +kernel
theorem d_MD_table_17 : decode prog_14_method_8_code 17 = .ok (.iload_n 1, 1) := by decide +kernel
theorem d_MD_table_18 : decode prog_14_method_8_code 18 = .ok (.bipush 24, 2) := by decide +kernel
theorem d_MD_table_20 : decode prog_14_method_8_code 20 = .ok (.if_icmp .gt 10, 3) := by decide +kernel
theorem d_MD_table_23 : decode prog_14_method_8_code 23 = .ok (.iload_n 2, 1) := by decide +kernel
theorem d_MD_table_24 : decode prog_14_method_8_code 24 = .ok (.sipush 32749, 3) := by decide +kernel
theorem d_MD_table_27 : decode prog_14_method_8_code 27 = .ok (.if_icmp .le 10, 3) := by decide +kernel
theorem d_MD_table_30 : decode prog_14_method_8_code 30 = .ok (.aload_n 0, 1) := by decide +kernel
theorem d_MD_table_31 : decode prog_14_method_8_code 31 = .ok (.bipush (-6), 2) := by decide +kernel
theorem d_MD_table_33 : decode prog_14_method_8_code 33 = .ok (.invokevirtual 79, 3) := by decide +kernel
theorem d_MD_table_36 : decode prog_14_method_8_code 36 = .ok (.ireturn, 1) := by decide +kernel
theorem d_MD_table_37 : decode prog_14_method_8_code 37 = .ok (.iconst 2, 1) := by decide +kernel
theorem d_MD_table_38 : decode prog_14_method_8_code 38 = .ok (.istore_n 3, 1) := by decide +kernel
theorem d_MD_table_39 : decode prog_14_method_8_code 39 = .ok (.iload_n 3, 1) := by decide +kernel
theorem d_MD_table_40 : decode prog_14_method_8_code 40 = .ok (.iload_n 3, 1) := by decide +kernel
theorem d_MD_table_41 : decode prog_14_method_8_code 41 = .ok (.imul, 1) := by decide +kernel
theorem d_MD_table_42 : decode prog_14_method_8_code 42 = .ok (.iload_n 2, 1) := by decide +kernel
theorem d_MD_table_43 : decode prog_14_method_8_code 43 = .ok (.if_icmp .gt 22, 3) := by decide +kernel
theorem d_MD_table_46 : decode prog_14_method_8_code 46 = .ok (.iload_n 2, 1) := by decide +kernel
theorem d_MD_table_47 : decode prog_14_method_8_code 47 = .ok (.iload_n 3, 1) := by decide +kernel
theorem d_MD_table_48 : decode prog_14_method_8_code 48 = .ok (.irem, 1) := by decide +kernel
theorem d_MD_table_49 : decode prog_14_method_8_code 49 = .ok (.ifCond .ne 10, 3) := by decide +kernel
theorem d_MD_table_52 : decode prog_14_method_8_code 52 = .ok (.aload_n 0, 1) := by decide +kernel
theorem d_MD_table_53 : decode prog_14_method_8_code 53 = .ok (.bipush (-2), 2) := by decide +kernel
theorem d_MD_table_55 : decode prog_14_method_8_code 55 = .ok (.invokevirtual 79, 3) := by decide +kernel
theorem d_MD_table_58 : decode prog_14_method_8_code 58 = .ok (.ireturn, 1) := by decide +kernel
theorem d_MD_table_59 : decode prog_14_method_8_code 59 = .ok (.iinc 3 1, 3) := by decide +kernel
theorem d_MD_table_62 : decode prog_14_method_8_code 62 = .ok (.goto (-23), 3) := by decide +kernel
theorem d_MD_table_65 : decode prog_14_method_8_code 65 = .ok (.aload_n 0, 1) := by decide +kernel
theorem d_MD_table_66 : decode prog_14_method_8_code 66 = .ok (.iload_n 1, 1) := by decide +kernel
theorem d_MD_table_67 : decode prog_14_method_8_code 67 = .ok (.putfield 7, 3) := by decide +kernel
theorem d_MD_table_70 : decode prog_14_method_8_code 70 = .ok (.aload_n 0, 1) := by decide +kernel
theorem d_MD_table_71 : decode prog_14_method_8_code 71 = .ok (.iload_n 2, 1) := by decide +kernel
theorem d_MD_table_72 : decode prog_14_method_8_code 72 = .ok (.putfield 13, 3) := by decide +kernel
theorem d_MD_table_75 : decode prog_14_method_8_code 75 = .ok (.iconst 0, 1) := by decide +kernel
theorem d_MD_table_76 : decode prog_14_method_8_code 76 = .ok (.istore_n 3, 1) := by decide +kernel
theorem d_MD_table_77 : decode prog_14_method_8_code 77 = .ok (.iload_n 3, 1) := by decide +kernel
theorem d_MD_table_78 : decode prog_14_method_8_code 78 = .ok (.sipush 576, 3) := by decide +kernel
theorem d_MD_table_81 : decode prog_14_method_8_code 81 = .ok (.if_icmp .ge 16, 3) := by decide +kernel
theorem d_MD_table_84 : decode prog_14_method_8_code 84 = .ok (.aload_n 0, 1) := by decide +kernel
theorem d_MD_table_85 : decode prog_14_method_8_code 85 = .ok (.getfield 16, 3) := by decide +kernel
theorem d_MD_table_88 : decode prog_14_method_8_code 88 = .ok (.iload_n 3, 1) := by decide +kernel
theorem d_MD_table_89 : decode prog_14_method_8_code 89 = .ok (.iconst 0, 1) := by decide +kernel
theorem d_MD_table_90 : decode prog_14_method_8_code 90 = .ok (.iastore, 1) := by decide +kernel
theorem d_MD_table_91 : decode prog_14_method_8_code 91 = .ok (.iinc 3 1, 3) := by decide +kernel
theorem d_MD_table_94 : decode prog_14_method_8_code 94 = .ok (.goto (-17), 3) := by decide +kernel
theorem d_MD_table_97 : decode prog_14_method_8_code 97 = .ok (.iconst 0, 1) := by decide +kernel
theorem d_MD_table_98 : decode prog_14_method_8_code 98 = .ok (.istore_n 3, 1) := by decide +kernel
theorem d_MD_table_99 : decode prog_14_method_8_code 99 = .ok (.iload_n 3, 1) := by decide +kernel
theorem d_MD_table_100 : decode prog_14_method_8_code 100 = .ok (.bipush 24, 2) := by decide +kernel
theorem d_MD_table_102 : decode prog_14_method_8_code 102 = .ok (.if_icmp .ge 30, 3) := by decide +kernel
theorem d_MD_table_105 : decode prog_14_method_8_code 105 = .ok (.aload_n 0, 1) := by decide +kernel
theorem d_MD_table_106 : decode prog_14_method_8_code 106 = .ok (.getfield 20, 3) := by decide +kernel
theorem d_MD_table_109 : decode prog_14_method_8_code 109 = .ok (.iload_n 3, 1) := by decide +kernel
theorem d_MD_table_110 : decode prog_14_method_8_code 110 = .ok (.iconst 0, 1) := by decide +kernel
theorem d_MD_table_111 : decode prog_14_method_8_code 111 = .ok (.bastore, 1) := by decide +kernel
theorem d_MD_table_112 : decode prog_14_method_8_code 112 = .ok (.aload_n 0, 1) := by decide +kernel
theorem d_MD_table_113 : decode prog_14_method_8_code 113 = .ok (.getfield 24, 3) := by decide +kernel
theorem d_MD_table_116 : decode prog_14_method_8_code 116 = .ok (.iload_n 3, 1) := by decide +kernel
theorem d_MD_table_117 : decode prog_14_method_8_code 117 = .ok (.iload_n 3, 1) := by decide +kernel
theorem d_MD_table_118 : decode prog_14_method_8_code 118 = .ok (.iastore, 1) := by decide +kernel
theorem d_MD_table_119 : decode prog_14_method_8_code 119 = .ok (.aload_n 0, 1) := by decide +kernel
theorem d_MD_table_120 : decode prog_14_method_8_code 120 = .ok (.getfield 27, 3) := by decide +kernel
theorem d_MD_table_123 : decode prog_14_method_8_code 123 = .ok (.iload_n 3, 1) := by decide +kernel
theorem d_MD_table_124 : decode prog_14_method_8_code 124 = .ok (.iconst 0, 1) := by decide +kernel
theorem d_MD_table_125 : decode prog_14_method_8_code 125 = .ok (.iastore, 1) := by decide +kernel
theorem d_MD_table_126 : decode prog_14_method_8_code 126 = .ok (.iinc 3 1, 3) := by decide +kernel
theorem d_MD_table_129 : decode prog_14_method_8_code 129 = .ok (.goto (-30), 3) := by decide +kernel
theorem d_MD_table_132 : decode prog_14_method_8_code 132 = .ok (.aload_n 0, 1) := by decide +kernel
theorem d_MD_table_133 : decode prog_14_method_8_code 133 = .ok (.invokevirtual 83, 3) := by decide +kernel
theorem d_MD_table_136 : decode prog_14_method_8_code 136 = .ok (.aload_n 0, 1) := by decide +kernel
theorem d_MD_table_137 : decode prog_14_method_8_code 137 = .ok (.iconst (-1), 1) := by decide +kernel
theorem d_MD_table_138 : decode prog_14_method_8_code 138 = .ok (.putfield 48, 3) := by decide +kernel
theorem d_MD_table_141 : decode prog_14_method_8_code 141 = .ok (.aload_n 0, 1) := by decide +kernel
theorem d_MD_table_142 : decode prog_14_method_8_code 142 = .ok (.invokevirtual 86, 3) := by decide +kernel
theorem d_MD_table_145 : decode prog_14_method_8_code 145 = .ok (.istore_n 3, 1) := by decide +kernel
theorem d_MD_table_146 : decode prog_14_method_8_code 146 = .ok (.iconst 1, 1) := by decide +kernel
theorem d_MD_table_147 : decode prog_14_method_8_code 147 = .ok (.ireturn, 1) := by decide +kernel
def MD_table_10 (h0 : Nat) (I : jM) (K : Int32 → jM → Prop) : Prop :=
  MD_refuse h0 (-4 : Int32) I (fun r_1 I_2 => K r_1 I_2)
set_option maxRecDepth 100000 in
set_option maxHeartbeats 4000000 in
theorem k_MD_table_10 {Z : jZ} {E : jE} (C : jC Z E prog_14_method_8_code 4 "OutOrderModel" 2 43) (hr : (jZh Z).sig.returnType = (some .int)) (hE : E.2.2.2 = jLM)  (h0 : Nat) (I : jM) (g_h0 : jOB E 11 h0) {K : Int32 → jM → Prop} (h : MD_table_10 h0 I K) : jJ Z E 4 (jQi Z E K) 10 [(0, .ref (E.2.2.1 h0))] [] I := by
  unfold MD_table_10 at h
  refine j_aload_n C d_MD_table_10 rfl 0 rfl ?_
  refine j_bipush C d_MD_table_11 ib_m4 ?_
  refine j_callVi (As := [.int (-4 : Int32)]) C jcl_MD cw_MD_79 w_809 ws_23 g_h0 rfl rfl (by decide) (by decide) (Nat.le_of_ble_eq_true rfl) d_MD_table_13 (s_MD_refuse C.ok hE g_h0 h) (fun r_1 I_2 h => ?_)
  exact j_iret C hr d_MD_table_16 h
def MD_table_30 (h0 : Nat) (I : jM) (K : Int32 → jM → Prop) : Prop :=
  MD_refuse h0 (-6 : Int32) I (fun r_1 I_2 => K r_1 I_2)
set_option maxRecDepth 100000 in
set_option maxHeartbeats 4000000 in
theorem k_MD_table_30 {Z : jZ} {E : jE} (C : jC Z E prog_14_method_8_code 4 "OutOrderModel" 2 43) (hr : (jZh Z).sig.returnType = (some .int)) (hE : E.2.2.2 = jLM)  (h0 : Nat) (I : jM) (g_h0 : jOB E 11 h0) {K : Int32 → jM → Prop} (h : MD_table_30 h0 I K) : jJ Z E 4 (jQi Z E K) 30 [(0, .ref (E.2.2.1 h0))] [] I := by
  unfold MD_table_30 at h
  refine j_aload_n C d_MD_table_30 rfl 0 rfl ?_
  refine j_bipush C d_MD_table_31 ib_m6 ?_
  refine j_callVi (As := [.int (-6 : Int32)]) C jcl_MD cw_MD_79 w_809 ws_23 g_h0 rfl rfl (by decide) (by decide) (Nat.le_of_ble_eq_true rfl) d_MD_table_33 (s_MD_refuse C.ok hE g_h0 h) (fun r_1 I_2 h => ?_)
  exact j_iret C hr d_MD_table_36 h
def MD_table_99b (h0 : Nat) (v3 : Int32) (I : jM) (K : Int32 → jM → Prop) (X99 : Int32 × jM → Prop) : Prop :=
  (((24 : Int32) ≤ v3 → MD_notWorked h0 I (fun I_2 => (∀ I_3 : jM, I_3 = jwr I_2 h0 13 (-1 : Int32) → MD_begin h0 I_3 (fun r_4 I_5 => K (1 : Int32) I_5)))) ∧ (¬ (24 : Int32) ≤ v3 → (vp_in v3 24 ∧ (∀ I_6 : jM, I_6 = jwr I (jr h0 3) v3.toNatClampNeg (vp_nar .boolean (0 : Int32)) → (vp_in v3 24 ∧ (∀ I_7 : jM, I_7 = jwr I_6 (jr h0 4) v3.toNatClampNeg v3 → (vp_in v3 24 ∧ (∀ I_8 : jM, I_8 = jwr I_7 (jr h0 5) v3.toNatClampNeg (0 : Int32) → X99 ((v3 + 1), I_8)))))))))
def MD_table_99 (h0 : Nat) (v3 : Int32) (I : jM) (K : Int32 → jM → Prop) : Prop :=
  lp (fun (X99 : Int32 × jM → Prop) (s : Int32 × jM) => MD_table_99b h0 s.1 s.2 K X99) (v3, I)
set_option maxRecDepth 100000 in
set_option maxHeartbeats 4000000 in
theorem kb_MD_table_99 {Z : jZ} {E : jE} (C : jC Z E prog_14_method_8_code 4 "OutOrderModel" 2 43) (hr : (jZh Z).sig.returnType = (some .int)) (hE : E.2.2.2 = jLM)  (h0 : Nat) (v3 : Int32) (I : jM) (g_h0 : jOB E 11 h0) {K : Int32 → jM → Prop} {X99 : Int32 × jM → Prop} (hX99 : ∀ s : Int32 × jM, X99 s → jJ Z E 4 (jQi Z E K) 99 [(0, .ref (E.2.2.1 h0)), (3, .int s.1)] [] s.2) (h : MD_table_99b h0 v3 I K X99) : jJ Z E 4 (jQi Z E K) 99 [(0, .ref (E.2.2.1 h0)), (3, .int v3)] [] I := by
  unfold MD_table_99b at h
  refine j_iload_n C d_MD_table_99 rfl 1 rfl ?_
  refine j_bipush C d_MD_table_100 ib_24 ?_
  refine j_icmp_ge C d_MD_table_102 (tgt := 132) (by decide) (fun c102 => ?_) (fun c102 => ?_)
  · have h := h.1 c102
    refine j_aload_n C d_MD_table_132 rfl 0 rfl ?_
    refine j_callVv (As := []) C jcl_MD cw_MD_83 w_813 ws_24 g_h0 rfl rfl (by decide) (by decide) (Nat.le_of_ble_eq_true rfl) d_MD_table_133 (s_MD_notWorked C.ok g_h0 h) (fun I_2 h => ?_)
    refine j_aload_n C d_MD_table_136 rfl 0 rfl ?_
    refine j_iconst C d_MD_table_137 ic_m1 ?_
    refine fp_MD_48 C g_h0 d_MD_table_138 ?_
    have h := h _ rfl
    generalize eI_3 : (jwr I_2 h0 13 (-1 : Int32) : jM) = I_3 at h ⊢
    refine j_aload_n C d_MD_table_141 rfl 0 rfl ?_
    refine j_callVi (As := []) C jcl_MD cw_MD_86 w_816 w_817 g_h0 rfl rfl (by decide) (by decide) (Nat.le_of_ble_eq_true rfl) d_MD_table_142 (s_MD_begin C.ok hE g_h0 h) (fun r_4 I_5 h => ?_)
    refine j_istore_n C d_MD_table_145 rfl (by decide) (lv' := [(3, .int r_4), (0, .ref (E.2.2.1 h0))]) rfl ?_
    refine j_iconst C d_MD_table_146 ic_1 ?_
    exact j_iret C hr d_MD_table_147 h
  · have h := h.2 c102
    refine j_aload_n C d_MD_table_105 rfl 0 rfl ?_
    refine fg_MD_20 C g_h0 d_MD_table_106 ?_
    refine j_iload_n C d_MD_table_109 rfl 1 rfl ?_
    refine j_iconst C d_MD_table_110 ic_0 ?_
    obtain ⟨hi, h⟩ := h
    refine j_zastore C (sh_MD_3 hE g_h0) hi d_MD_table_111 ?_
    have h := h _ rfl
    generalize eI_6 : (jwr I (jr h0 3) v3.toNatClampNeg (vp_nar .boolean (0 : Int32)) : jM) = I_6 at h ⊢
    refine j_aload_n C d_MD_table_112 rfl 0 rfl ?_
    refine fg_MD_24 C g_h0 d_MD_table_113 ?_
    refine j_iload_n C d_MD_table_116 rfl 1 rfl ?_
    refine j_iload_n C d_MD_table_117 rfl 1 rfl ?_
    obtain ⟨hi, h⟩ := h
    refine j_iastore C (sh_MD_4 hE g_h0) hi d_MD_table_118 ?_
    have h := h _ rfl
    generalize eI_7 : (jwr I_6 (jr h0 4) v3.toNatClampNeg v3 : jM) = I_7 at h ⊢
    refine j_aload_n C d_MD_table_119 rfl 0 rfl ?_
    refine fg_MD_27 C g_h0 d_MD_table_120 ?_
    refine j_iload_n C d_MD_table_123 rfl 1 rfl ?_
    refine j_iconst C d_MD_table_124 ic_0 ?_
    obtain ⟨hi, h⟩ := h
    refine j_iastore C (sh_MD_5 hE g_h0) hi d_MD_table_125 ?_
    have h := h _ rfl
    generalize eI_8 : (jwr I_7 (jr h0 5) v3.toNatClampNeg (0 : Int32) : jM) = I_8 at h ⊢
    refine j_iinc C d_MD_table_126 1 rfl (v := (v3 + 1)) rfl (by decide) (lv' := [(3, .int (v3 + 1)), (0, .ref (E.2.2.1 h0))]) rfl ?_
    refine j_goto C d_MD_table_129 (tgt := 99) (by decide) ?_
    refine j_lv [1, 0] rfl ?_
    exact hX99 ((v3 + 1), I_8) h
theorem k_MD_table_99 {Z : jZ} {E : jE} (C : jC Z E prog_14_method_8_code 4 "OutOrderModel" 2 43) (hr : (jZh Z).sig.returnType = (some .int)) (hE : E.2.2.2 = jLM)  (h0 : Nat) (v3 : Int32) (I : jM) (g_h0 : jOB E 11 h0) {K : Int32 → jM → Prop} (h : MD_table_99 h0 v3 I K) : jJ Z E 4 (jQi Z E K) 99 [(0, .ref (E.2.2.1 h0)), (3, .int v3)] [] I := by
  unfold MD_table_99 at h
  exact h (fun s => jJ Z E 4 (jQi Z E K) 99 [(0, .ref (E.2.2.1 h0)), (3, .int s.1)] [] s.2) (fun s hs => kb_MD_table_99 C hr hE h0 s.1 s.2 g_h0 (fun s2 h2 => h2) hs)
def MD_table_77b (h0 : Nat) (v3 : Int32) (I : jM) (K : Int32 → jM → Prop) (X77 : Int32 × jM → Prop) : Prop :=
  (((576 : Int32) ≤ v3 → MD_table_99 h0 (0 : Int32) I K) ∧ (¬ (576 : Int32) ≤ v3 → (vp_in v3 576 ∧ (∀ I_1 : jM, I_1 = jwr I (jr h0 2) v3.toNatClampNeg (0 : Int32) → X77 ((v3 + 1), I_1)))))
def MD_table_77 (h0 : Nat) (v3 : Int32) (I : jM) (K : Int32 → jM → Prop) : Prop :=
  lp (fun (X77 : Int32 × jM → Prop) (s : Int32 × jM) => MD_table_77b h0 s.1 s.2 K X77) (v3, I)
set_option maxRecDepth 100000 in
set_option maxHeartbeats 4000000 in
theorem kb_MD_table_77 {Z : jZ} {E : jE} (C : jC Z E prog_14_method_8_code 4 "OutOrderModel" 2 43) (hr : (jZh Z).sig.returnType = (some .int)) (hE : E.2.2.2 = jLM)  (h0 : Nat) (v3 : Int32) (I : jM) (g_h0 : jOB E 11 h0) {K : Int32 → jM → Prop} {X77 : Int32 × jM → Prop} (hX77 : ∀ s : Int32 × jM, X77 s → jJ Z E 4 (jQi Z E K) 77 [(0, .ref (E.2.2.1 h0)), (3, .int s.1)] [] s.2) (h : MD_table_77b h0 v3 I K X77) : jJ Z E 4 (jQi Z E K) 77 [(0, .ref (E.2.2.1 h0)), (3, .int v3)] [] I := by
  unfold MD_table_77b at h
  refine j_iload_n C d_MD_table_77 rfl 1 rfl ?_
  refine j_sipush C d_MD_table_78 is_576 ?_
  refine j_icmp_ge C d_MD_table_81 (tgt := 97) (by decide) (fun c81 => ?_) (fun c81 => ?_)
  · have h := h.1 c81
    refine j_iconst C d_MD_table_97 ic_0 ?_
    refine j_istore_n C d_MD_table_98 rfl (by decide) (lv' := [(3, .int (0 : Int32)), (0, .ref (E.2.2.1 h0))]) rfl ?_
    refine j_lv [1, 0] rfl ?_
    exact k_MD_table_99 C hr hE h0 (0 : Int32) I g_h0 h
  · have h := h.2 c81
    refine j_aload_n C d_MD_table_84 rfl 0 rfl ?_
    refine fg_MD_16 C g_h0 d_MD_table_85 ?_
    refine j_iload_n C d_MD_table_88 rfl 1 rfl ?_
    refine j_iconst C d_MD_table_89 ic_0 ?_
    obtain ⟨hi, h⟩ := h
    refine j_iastore C (sh_MD_2 hE g_h0) hi d_MD_table_90 ?_
    have h := h _ rfl
    generalize eI_1 : (jwr I (jr h0 2) v3.toNatClampNeg (0 : Int32) : jM) = I_1 at h ⊢
    refine j_iinc C d_MD_table_91 1 rfl (v := (v3 + 1)) rfl (by decide) (lv' := [(3, .int (v3 + 1)), (0, .ref (E.2.2.1 h0))]) rfl ?_
    refine j_goto C d_MD_table_94 (tgt := 77) (by decide) ?_
    refine j_lv [1, 0] rfl ?_
    exact hX77 ((v3 + 1), I_1) h
theorem k_MD_table_77 {Z : jZ} {E : jE} (C : jC Z E prog_14_method_8_code 4 "OutOrderModel" 2 43) (hr : (jZh Z).sig.returnType = (some .int)) (hE : E.2.2.2 = jLM)  (h0 : Nat) (v3 : Int32) (I : jM) (g_h0 : jOB E 11 h0) {K : Int32 → jM → Prop} (h : MD_table_77 h0 v3 I K) : jJ Z E 4 (jQi Z E K) 77 [(0, .ref (E.2.2.1 h0)), (3, .int v3)] [] I := by
  unfold MD_table_77 at h
  exact h (fun s => jJ Z E 4 (jQi Z E K) 77 [(0, .ref (E.2.2.1 h0)), (3, .int s.1)] [] s.2) (fun s hs => kb_MD_table_77 C hr hE h0 s.1 s.2 g_h0 (fun s2 h2 => h2) hs)
def MD_table_39b (h0 : Nat) (v1 : Int32) (v2 : Int32) (v3 : Int32) (I : jM) (K : Int32 → jM → Prop) (X39 : Int32 → Prop) : Prop :=
  ((v2 < (v3 * v3) → (∀ I_1 : jM, I_1 = jwr I h0 0 v1 → (∀ I_2 : jM, I_2 = jwr I_1 h0 1 v2 → MD_table_77 h0 (0 : Int32) I_2 K))) ∧ (¬ v2 < (v3 * v3) → (¬ v3 = 0 ∧ ((¬ (v2 - v2 / v3 * v3) = 0 → X39 (v3 + 1)) ∧ ((v2 - v2 / v3 * v3) = 0 → MD_refuse h0 (-2 : Int32) I (fun r_3 I_4 => K r_3 I_4))))))
def MD_table_39 (h0 : Nat) (v1 : Int32) (v2 : Int32) (v3 : Int32) (I : jM) (K : Int32 → jM → Prop) : Prop :=
  lp (fun (X39 : Int32 → Prop) (s : Int32) => MD_table_39b h0 v1 v2 s I K X39) v3
set_option maxRecDepth 100000 in
set_option maxHeartbeats 4000000 in
theorem kb_MD_table_39 {Z : jZ} {E : jE} (C : jC Z E prog_14_method_8_code 4 "OutOrderModel" 2 43) (hr : (jZh Z).sig.returnType = (some .int)) (hE : E.2.2.2 = jLM)  (h0 : Nat) (v1 : Int32) (v2 : Int32) (v3 : Int32) (I : jM) (g_h0 : jOB E 11 h0) {K : Int32 → jM → Prop} {X39 : Int32 → Prop} (hX39 : ∀ s : Int32, X39 s → jJ Z E 4 (jQi Z E K) 39 [(0, .ref (E.2.2.1 h0)), (1, .int v1), (2, .int v2), (3, .int s)] [] I) (h : MD_table_39b h0 v1 v2 v3 I K X39) : jJ Z E 4 (jQi Z E K) 39 [(0, .ref (E.2.2.1 h0)), (1, .int v1), (2, .int v2), (3, .int v3)] [] I := by
  unfold MD_table_39b at h
  refine j_iload_n C d_MD_table_39 rfl 3 rfl ?_
  refine j_iload_n C d_MD_table_40 rfl 3 rfl ?_
  refine j_imul C d_MD_table_41 ?_
  refine j_iload_n C d_MD_table_42 rfl 2 rfl ?_
  refine j_icmp_gt C d_MD_table_43 (tgt := 65) (by decide) (fun c43 => ?_) (fun c43 => ?_)
  · have h := h.1 c43
    refine j_aload_n C d_MD_table_65 rfl 0 rfl ?_
    refine j_iload_n C d_MD_table_66 rfl 1 rfl ?_
    refine fp_MD_7 C g_h0 d_MD_table_67 ?_
    have h := h _ rfl
    generalize eI_1 : (jwr I h0 0 v1 : jM) = I_1 at h ⊢
    refine j_aload_n C d_MD_table_70 rfl 0 rfl ?_
    refine j_iload_n C d_MD_table_71 rfl 2 rfl ?_
    refine fp_MD_13 C g_h0 d_MD_table_72 ?_
    have h := h _ rfl
    generalize eI_2 : (jwr I_1 h0 1 v2 : jM) = I_2 at h ⊢
    refine j_iconst C d_MD_table_75 ic_0 ?_
    refine j_istore_n C d_MD_table_76 rfl (by decide) (lv' := [(3, .int (0 : Int32)), (0, .ref (E.2.2.1 h0)), (1, .int v1), (2, .int v2)]) rfl ?_
    refine j_lv [1, 0] rfl ?_
    exact k_MD_table_77 C hr hE h0 (0 : Int32) I_2 g_h0 h
  · have h := h.2 c43
    refine j_iload_n C d_MD_table_46 rfl 2 rfl ?_
    refine j_iload_n C d_MD_table_47 rfl 3 rfl ?_
    obtain ⟨hn, h⟩ := h
    refine j_irem C d_MD_table_48 hn ?_
    refine j_if_ne C d_MD_table_49 (tgt := 59) (by decide) (fun c49 => ?_) (fun c49 => ?_)
    · have h := h.1 c49
      refine j_iinc C d_MD_table_59 3 rfl (v := (v3 + 1)) rfl (by decide) (lv' := [(3, .int (v3 + 1)), (0, .ref (E.2.2.1 h0)), (1, .int v1), (2, .int v2)]) rfl ?_
      refine j_goto C d_MD_table_62 (tgt := 39) (by decide) ?_
      refine j_lv [1, 2, 3, 0] rfl ?_
      exact hX39 (v3 + 1) h
    · have h := h.2 c49
      refine j_aload_n C d_MD_table_52 rfl 0 rfl ?_
      refine j_bipush C d_MD_table_53 ib_m2 ?_
      refine j_callVi (As := [.int (-2 : Int32)]) C jcl_MD cw_MD_79 w_809 ws_23 g_h0 rfl rfl (by decide) (by decide) (Nat.le_of_ble_eq_true rfl) d_MD_table_55 (s_MD_refuse C.ok hE g_h0 h) (fun r_3 I_4 h => ?_)
      exact j_iret C hr d_MD_table_58 h
theorem k_MD_table_39 {Z : jZ} {E : jE} (C : jC Z E prog_14_method_8_code 4 "OutOrderModel" 2 43) (hr : (jZh Z).sig.returnType = (some .int)) (hE : E.2.2.2 = jLM)  (h0 : Nat) (v1 : Int32) (v2 : Int32) (v3 : Int32) (I : jM) (g_h0 : jOB E 11 h0) {K : Int32 → jM → Prop} (h : MD_table_39 h0 v1 v2 v3 I K) : jJ Z E 4 (jQi Z E K) 39 [(0, .ref (E.2.2.1 h0)), (1, .int v1), (2, .int v2), (3, .int v3)] [] I := by
  unfold MD_table_39 at h
  exact h (fun s => jJ Z E 4 (jQi Z E K) 39 [(0, .ref (E.2.2.1 h0)), (1, .int v1), (2, .int v2), (3, .int s)] [] I) (fun s hs => kb_MD_table_39 C hr hE h0 v1 v2 s I g_h0 (fun s2 h2 => h2) hs)
/-- OutOrderModel.table(II)I -/
def MD_table (h0 : Nat) (v1 : Int32) (v2 : Int32) (I : jM) (K : Int32 → jM → Prop) : Prop :=
  ((v1 < (1 : Int32) → MD_table_10 h0 I K) ∧ (¬ v1 < (1 : Int32) → (((2 : Int32) ≤ v2 → (((24 : Int32) < v1 → MD_table_30 h0 I K) ∧ (¬ (24 : Int32) < v1 → ((v2 ≤ (32749 : Int32) → MD_table_39 h0 v1 v2 (2 : Int32) I K) ∧ (¬ v2 ≤ (32749 : Int32) → MD_table_30 h0 I K))))) ∧ (¬ (2 : Int32) ≤ v2 → MD_table_10 h0 I K))))
set_option maxRecDepth 100000 in
set_option maxHeartbeats 4000000 in
theorem s_MD_table {l : Launch} {E : jE} (ok : jOK E) (hE : E.2.2.2 = jLM) {h0 : Nat} {v1 : Int32} {v2 : Int32} (g_h0 : jOB E 11 h0) {I : jM} {K : Int32 → jM → Prop} (h : MD_table h0 v1 v2 I K) : jSi l E ⟨"OutOrderModel", "table", "(II)I"⟩ prog_14_method_8_code 4 (some .int) 2 43 [.ref (E.2.2.1 h0), .int v1, .int v2] I K := by
  refine jS_ofF (own := "OutOrderModel") (by decide +kernel) rfl ok (Nat.le_of_ble_eq_true rfl) (fun Z _ C hr => ?_)
  show jJ Z E 4 (jQi Z E K) 0 [(0, .ref (E.2.2.1 h0)), (1, .int v1), (2, .int v2)] [] I
  unfold MD_table at h
  refine j_iload_n C d_MD_table_0 rfl 1 rfl ?_
  refine j_iconst C d_MD_table_1 ic_1 ?_
  refine j_icmp_lt C d_MD_table_2 (tgt := 10) (by decide) (fun c2 => ?_) (fun c2 => ?_)
  · have h := h.1 c2
    refine j_lv [0] rfl ?_
    exact k_MD_table_10 C hr hE h0 I g_h0 h
  · have h := h.2 c2
    refine j_iload_n C d_MD_table_5 rfl 2 rfl ?_
    refine j_iconst C d_MD_table_6 ic_2 ?_
    refine j_icmp_ge C d_MD_table_7 (tgt := 17) (by decide) (fun c7 => ?_) (fun c7 => ?_)
    · have h := h.1 c7
      refine j_iload_n C d_MD_table_17 rfl 1 rfl ?_
      refine j_bipush C d_MD_table_18 ib_24 ?_
      refine j_icmp_gt C d_MD_table_20 (tgt := 30) (by decide) (fun c20 => ?_) (fun c20 => ?_)
      · have h := h.1 c20
        refine j_lv [0] rfl ?_
        exact k_MD_table_30 C hr hE h0 I g_h0 h
      · have h := h.2 c20
        refine j_iload_n C d_MD_table_23 rfl 2 rfl ?_
        refine j_sipush C d_MD_table_24 is_32749 ?_
        refine j_icmp_le C d_MD_table_27 (tgt := 37) (by decide) (fun c27 => ?_) (fun c27 => ?_)
        · have h := h.1 c27
          refine j_iconst C d_MD_table_37 ic_2 ?_
          refine j_istore_n C d_MD_table_38 rfl (by decide) (lv' := [(3, .int (2 : Int32)), (0, .ref (E.2.2.1 h0)), (1, .int v1), (2, .int v2)]) rfl ?_
          refine j_lv [1, 2, 3, 0] rfl ?_
          exact k_MD_table_39 C hr hE h0 v1 v2 (2 : Int32) I g_h0 h
        · have h := h.2 c27
          refine j_lv [0] rfl ?_
          exact k_MD_table_30 C hr hE h0 I g_h0 h
    · have h := h.2 c7
      refine j_lv [0] rfl ?_
      exact k_MD_table_10 C hr hE h0 I g_h0 h
theorem d_MD_width_0 : decode prog_14_method_33_code 0 = .ok (.aload_n 0, 1) := by decide +kernel
theorem d_MD_width_1 : decode prog_14_method_33_code 1 = .ok (.invokevirtual 148, 3) := by decide +kernel
theorem d_MD_width_4 : decode prog_14_method_33_code 4 = .ok (.iconst 0, 1) := by decide +kernel
theorem d_MD_width_5 : decode prog_14_method_33_code 5 = .ok (.istore_n 1, 1) := by decide +kernel
theorem d_MD_width_6 : decode prog_14_method_33_code 6 = .ok (.iconst 0, 1) := by decide +kernel
theorem d_MD_width_7 : decode prog_14_method_33_code 7 = .ok (.istore_n 2, 1) := by decide +kernel
theorem d_MD_width_8 : decode prog_14_method_33_code 8 = .ok (.iload_n 2, 1) := by decide +kernel
theorem d_MD_width_9 : decode prog_14_method_33_code 9 = .ok (.aload_n 0, 1) := by decide +kernel
theorem d_MD_width_10 : decode prog_14_method_33_code 10 = .ok (.getfield 7, 3) := by decide +kernel
theorem d_MD_width_13 : decode prog_14_method_33_code 13 = .ok (.if_icmp .ge 36, 3) := by decide +kernel
theorem d_MD_width_16 : decode prog_14_method_33_code 16 = .ok (.aload_n 0, 1) := by decide +kernel
theorem d_MD_width_17 : decode prog_14_method_33_code 17 = .ok (.getfield 36, 3) := by decide +kernel
theorem d_MD_width_20 : decode prog_14_method_33_code 20 = .ok (.iload_n 2, 1) := by decide +kernel
theorem d_MD_width_21 : decode prog_14_method_33_code 21 = .ok (.iaload, 1) := by decide +kernel
theorem d_MD_width_22 : decode prog_14_method_33_code 22 = .ok (.invokestatic 98, 3) := by decide +kernel
theorem d_MD_width_25 : decode prog_14_method_33_code 25 = .ok (.iload_n 1, 1) := by decide +kernel
theorem d_MD_width_26 : decode prog_14_method_33_code 26 = .ok (.if_icmp .le 15, 3) := by decide +kernel
theorem d_MD_width_29 : decode prog_14_method_33_code 29 = .ok (.aload_n 0, 1) := by decide +kernel
theorem d_MD_width_30 : decode prog_14_method_33_code 30 = .ok (.getfield 36, 3) := by decide +kernel
theorem d_MD_width_33 : decode prog_14_method_33_code 33 = .ok (.iload_n 2, 1) := by decide +kernel
theorem d_MD_width_34 : decode prog_14_method_33_code 34 = .ok (.iaload, 1) := by decide +kernel
theorem d_MD_width_35 : decode prog_14_method_33_code 35 = .ok (.invokestatic 98, 3) := by decide +kernel
theorem d_MD_width_38 : decode prog_14_method_33_code 38 = .ok (.goto 4, 3) := by decide +kernel
theorem d_MD_width_41 : decode prog_14_method_33_code 41 = .ok (.iload_n 1, 1) := by decide +kernel
theorem d_MD_width_42 : decode prog_14_method_33_code 42 = .ok (.istore_n 1, 1) := by decide +kernel
theorem d_MD_width_43 : decode prog_14_method_33_code 43 = .ok (.iinc 2 1, 3) := by decide +kernel
theorem d_MD_width_46 : decode prog_14_method_33_code 46 = .ok (.goto (-38), 3) := by decide +kernel
theorem d_MD_width_49 : decode prog_14_method_33_code 49 = .ok (.iload_n 1, 1) := by decide +kernel
theorem d_MD_width_50 : decode prog_14_method_33_code 50 = .ok (.ireturn, 1) := by decide +kernel
def MD_width_8b (h0 : Nat) (v1 : Int32) (v2 : Int32) (I : jM) (K : Int32 → jM → Prop) (X8 : Int32 × Int32 → Prop) : Prop :=
  (((I h0 0) ≤ v2 → K v1 I) ∧ (¬ (I h0 0) ≤ v2 → (vp_in v2 24 ∧ MD_ones (I (jr h0 8) v2.toNatClampNeg) I (fun r_1 => ((r_1 ≤ v1 → X8 (v1, (v2 + 1))) ∧ (¬ r_1 ≤ v1 → (vp_in v2 24 ∧ MD_ones (I (jr h0 8) v2.toNatClampNeg) I (fun r_2 => X8 (r_2, (v2 + 1))))))))))
def MD_width_8 (h0 : Nat) (v1 : Int32) (v2 : Int32) (I : jM) (K : Int32 → jM → Prop) : Prop :=
  lp (fun (X8 : Int32 × Int32 → Prop) (s : Int32 × Int32) => MD_width_8b h0 s.1 s.2 I K X8) (v1, v2)
set_option maxRecDepth 100000 in
set_option maxHeartbeats 4000000 in
theorem kb_MD_width_8 {Z : jZ} {E : jE} (C : jC Z E prog_14_method_33_code 3 "OutOrderModel" 2 48) (hr : (jZh Z).sig.returnType = (some .int)) (hE : E.2.2.2 = jLM)  (h0 : Nat) (v1 : Int32) (v2 : Int32) (I : jM) (g_h0 : jOB E 11 h0) {K : Int32 → jM → Prop} {X8 : Int32 × Int32 → Prop} (hX8 : ∀ s : Int32 × Int32, X8 s → jJ Z E 3 (jQi Z E K) 8 [(0, .ref (E.2.2.1 h0)), (1, .int s.1), (2, .int s.2)] [] I) (h : MD_width_8b h0 v1 v2 I K X8) : jJ Z E 3 (jQi Z E K) 8 [(0, .ref (E.2.2.1 h0)), (1, .int v1), (2, .int v2)] [] I := by
  unfold MD_width_8b at h
  refine j_iload_n C d_MD_width_8 rfl 2 rfl ?_
  refine j_aload_n C d_MD_width_9 rfl 0 rfl ?_
  refine fg_MD_7 C g_h0 d_MD_width_10 ?_
  refine j_icmp_ge C d_MD_width_13 (tgt := 49) (by decide) (fun c13 => ?_) (fun c13 => ?_)
  · have h := h.1 c13
    refine j_iload_n C d_MD_width_49 rfl 1 rfl ?_
    exact j_iret C hr d_MD_width_50 h
  · have h := h.2 c13
    refine j_aload_n C d_MD_width_16 rfl 0 rfl ?_
    refine fg_MD_36 C g_h0 d_MD_width_17 ?_
    refine j_iload_n C d_MD_width_20 rfl 2 rfl ?_
    obtain ⟨hi, h⟩ := h
    refine j_iaload C (sh_MD_8 hE g_h0) hi d_MD_width_21 ?_
    refine j_callSi (As := [.int (I (jr h0 8) v2.toNatClampNeg)]) C cw_MD_98 w_866 rfl rfl (by decide) (by decide) (Nat.le_of_ble_eq_true rfl) d_MD_width_22 (s_MD_ones C.ok  h) (fun r_1 I2 h => ?_)
    obtain ⟨rfl, h⟩ := h
    refine j_iload_n C d_MD_width_25 rfl 1 rfl ?_
    refine j_icmp_le C d_MD_width_26 (tgt := 41) (by decide) (fun c26 => ?_) (fun c26 => ?_)
    · have h := h.1 c26
      refine j_iload_n C d_MD_width_41 rfl 1 rfl ?_
      refine j_istore_n C d_MD_width_42 rfl (by decide) (lv' := [(1, .int v1), (0, .ref (E.2.2.1 h0)), (2, .int v2)]) rfl ?_
      refine j_iinc C d_MD_width_43 2 rfl (v := (v2 + 1)) rfl (by decide) (lv' := [(2, .int (v2 + 1)), (1, .int v1), (0, .ref (E.2.2.1 h0))]) rfl ?_
      refine j_goto C d_MD_width_46 (tgt := 8) (by decide) ?_
      refine j_lv [2, 1, 0] rfl ?_
      exact hX8 (v1, (v2 + 1)) h
    · have h := h.2 c26
      refine j_aload_n C d_MD_width_29 rfl 0 rfl ?_
      refine fg_MD_36 C g_h0 d_MD_width_30 ?_
      refine j_iload_n C d_MD_width_33 rfl 2 rfl ?_
      obtain ⟨hi, h⟩ := h
      refine j_iaload C (sh_MD_8 hE g_h0) hi d_MD_width_34 ?_
      refine j_callSi (As := [.int (I (jr h0 8) v2.toNatClampNeg)]) C cw_MD_98 w_866 rfl rfl (by decide) (by decide) (Nat.le_of_ble_eq_true rfl) d_MD_width_35 (s_MD_ones C.ok  h) (fun r_2 I2 h => ?_)
      obtain ⟨rfl, h⟩ := h
      refine j_goto C d_MD_width_38 (tgt := 42) (by decide) ?_
      refine j_istore_n C d_MD_width_42 rfl (by decide) (lv' := [(1, .int r_2), (0, .ref (E.2.2.1 h0)), (2, .int v2)]) rfl ?_
      refine j_iinc C d_MD_width_43 2 rfl (v := (v2 + 1)) rfl (by decide) (lv' := [(2, .int (v2 + 1)), (1, .int r_2), (0, .ref (E.2.2.1 h0))]) rfl ?_
      refine j_goto C d_MD_width_46 (tgt := 8) (by decide) ?_
      refine j_lv [2, 1, 0] rfl ?_
      exact hX8 (r_2, (v2 + 1)) h
theorem k_MD_width_8 {Z : jZ} {E : jE} (C : jC Z E prog_14_method_33_code 3 "OutOrderModel" 2 48) (hr : (jZh Z).sig.returnType = (some .int)) (hE : E.2.2.2 = jLM)  (h0 : Nat) (v1 : Int32) (v2 : Int32) (I : jM) (g_h0 : jOB E 11 h0) {K : Int32 → jM → Prop} (h : MD_width_8 h0 v1 v2 I K) : jJ Z E 3 (jQi Z E K) 8 [(0, .ref (E.2.2.1 h0)), (1, .int v1), (2, .int v2)] [] I := by
  unfold MD_width_8 at h
  exact h (fun s => jJ Z E 3 (jQi Z E K) 8 [(0, .ref (E.2.2.1 h0)), (1, .int s.1), (2, .int s.2)] [] I) (fun s hs => kb_MD_width_8 C hr hE h0 s.1 s.2 I g_h0 (fun s2 h2 => h2) hs)
/-- OutOrderModel.width()I -/
def MD_width (h0 : Nat) (I : jM) (K : Int32 → jM → Prop) : Prop :=
  MD_goThrough h0 I (fun I_2 => MD_width_8 h0 (0 : Int32) (0 : Int32) I_2 K)
set_option maxRecDepth 100000 in
set_option maxHeartbeats 4000000 in
theorem s_MD_width {l : Launch} {E : jE} (ok : jOK E) (hE : E.2.2.2 = jLM) {h0 : Nat} (g_h0 : jOB E 11 h0) {I : jM} {K : Int32 → jM → Prop} (h : MD_width h0 I K) : jSi l E ⟨"OutOrderModel", "width", "()I"⟩ prog_14_method_33_code 3 (some .int) 2 48 [.ref (E.2.2.1 h0)] I K := by
  refine jS_ofF (own := "OutOrderModel") (by decide +kernel) rfl ok (Nat.le_of_ble_eq_true rfl) (fun Z _ C hr => ?_)
  show jJ Z E 3 (jQi Z E K) 0 [(0, .ref (E.2.2.1 h0))] [] I
  unfold MD_width at h
  refine j_aload_n C d_MD_width_0 rfl 0 rfl ?_
  refine j_callVv (As := []) C jcl_MD cw_MD_148 w_901 ws_37 g_h0 rfl rfl (by decide) (by decide) (Nat.le_of_ble_eq_true rfl) d_MD_width_1 (s_MD_goThrough C.ok hE g_h0 h) (fun I_2 h => ?_)
  refine j_iconst C d_MD_width_4 ic_0 ?_
  refine j_istore_n C d_MD_width_5 rfl (by decide) (lv' := [(1, .int (0 : Int32)), (0, .ref (E.2.2.1 h0))]) rfl ?_
  refine j_iconst C d_MD_width_6 ic_0 ?_
  refine j_istore_n C d_MD_width_7 rfl (by decide) (lv' := [(2, .int (0 : Int32)), (1, .int (0 : Int32)), (0, .ref (E.2.2.1 h0))]) rfl ?_
  refine j_lv [2, 1, 0] rfl ?_
  exact k_MD_width_8 C hr hE h0 (0 : Int32) (0 : Int32) I_2 g_h0 h
theorem d_MD_work_0 : decode prog_14_method_50_code 0 = .ok (.aload_n 0, 1) := by decide +kernel
theorem d_MD_work_1 : decode prog_14_method_50_code 1 = .ok (.invokevirtual 83, 3) := by decide +kernel
theorem d_MD_work_4 : decode prog_14_method_50_code 4 = .ok (.iconst 0, 1) := by decide +kernel
theorem d_MD_work_5 : decode prog_14_method_50_code 5 = .ok (.istore_n 1, 1) := by decide +kernel
theorem d_MD_work_6 : decode prog_14_method_50_code 6 = .ok (.iload_n 1, 1) := by decide +kernel
theorem d_MD_work_7 : decode prog_14_method_50_code 7 = .ok (.aload_n 0, 1) := by decide +kernel
theorem d_MD_work_8 : decode prog_14_method_50_code 8 = .ok (.getfield 7, 3) := by decide +kernel
theorem d_MD_work_11 : decode prog_14_method_50_code 11 = .ok (.if_icmp .ge 165, 3) := by decide +kernel
theorem d_MD_work_14 : decode prog_14_method_50_code 14 = .ok (.aload_n 0, 1) := by decide +kernel
theorem d_MD_work_15 : decode prog_14_method_50_code 15 = .ok (.getfield 24, 3) := by decide +kernel
theorem d_MD_work_18 : decode prog_14_method_50_code 18 = .ok (.iload_n 1, 1) := by decide +kernel
theorem d_MD_work_19 : decode prog_14_method_50_code 19 = .ok (.iaload, 1) := by decide +kernel
theorem d_MD_work_20 : decode prog_14_method_50_code 20 = .ok (.istore_n 2, 1) := by decide +kernel
theorem d_MD_work_21 : decode prog_14_method_50_code 21 = .ok (.aload_n 0, 1) := by decide +kernel
theorem d_MD_work_22 : decode prog_14_method_50_code 22 = .ok (.getfield 63, 3) := by decide +kernel
theorem d_MD_work_25 : decode prog_14_method_50_code 25 = .ok (.iload_n 2, 1) := by decide +kernel
theorem d_MD_work_26 : decode prog_14_method_50_code 26 = .ok (.aload_n 0, 1) := by decide +kernel
theorem d_MD_work_27 : decode prog_14_method_50_code 27 = .ok (.iload_n 2, 1) := by decide +kernel
theorem d_MD_work_28 : decode prog_14_method_50_code 28 = .ok (.iload_n 2, 1) := by decide +kernel
theorem d_MD_work_29 : decode prog_14_method_50_code 29 = .ok (.iload_n 1, 1) := by decide +kernel
theorem d_MD_work_30 : decode prog_14_method_50_code 30 = .ok (.invokevirtual 179, 3) := by decide +kernel
theorem d_MD_work_33 : decode prog_14_method_50_code 33 = .ok (.iastore, 1) := by decide +kernel
theorem d_MD_work_34 : decode prog_14_method_50_code 34 = .ok (.iconst 0, 1) := by decide +kernel
theorem d_MD_work_35 : decode prog_14_method_50_code 35 = .ok (.istore_n 3, 1) := by decide +kernel
theorem d_MD_work_36 : decode prog_14_method_50_code 36 = .ok (.iload_n 1, 1) := by decide +kernel
theorem d_MD_work_37 : decode prog_14_method_50_code 37 = .ok (.iconst 1, 1) := by decide +kernel
theorem d_MD_work_38 : decode prog_14_method_50_code 38 = .ok (.iadd, 1) := by decide +kernel
theorem d_MD_work_39 : decode prog_14_method_50_code 39 = .ok (.istore 4, 2) := by decide +kernel
theorem d_MD_work_41 : decode prog_14_method_50_code 41 = .ok (.iload 4, 2) := by decide +kernel
theorem d_MD_work_43 : decode prog_14_method_50_code 43 = .ok (.aload_n 0, 1) := by decide +kernel
theorem d_MD_work_44 : decode prog_14_method_50_code 44 = .ok (.getfield 7, 3) := by decide +kernel
theorem d_MD_work_47 : decode prog_14_method_50_code 47 = .ok (.if_icmp .ge 90, 3) := by decide +kernel
theorem d_MD_work_50 : decode prog_14_method_50_code 50 = .ok (.aload_n 0, 1) := by decide +kernel
theorem d_MD_work_51 : decode prog_14_method_50_code 51 = .ok (.getfield 24, 3) := by decide +kernel
theorem d_MD_work_54 : decode prog_14_method_50_code 54 = .ok (.iload 4, 2) := by decide +kernel
theorem d_MD_work_56 : decode prog_14_method_50_code 56 = .ok (.iaload, 1) := by decide +kernel
theorem d_MD_work_57 : decode prog_14_method_50_code 57 = .ok (.istore 5, 2) := by decide +kernel
theorem d_MD_work_59 : decode prog_14_method_50_code 59 = .ok (.aload_n 0, 1) := by decide +kernel
theorem d_MD_work_60 : decode prog_14_method_50_code 60 = .ok (.iload 5, 2) := by decide +kernel
theorem d_MD_work_62 : decode prog_14_method_50_code 62 = .ok (.iload_n 2, 1) := by decide +kernel
theorem d_MD_work_63 : decode prog_14_method_50_code 63 = .ok (.iload_n 1, 1) := by decide +kernel
theorem d_MD_work_64 : decode prog_14_method_50_code 64 = .ok (.invokevirtual 179, 3) := by decide +kernel
theorem d_MD_work_67 : decode prog_14_method_50_code 67 = .ok (.istore 6, 2) := by decide +kernel
theorem d_MD_work_69 : decode prog_14_method_50_code 69 = .ok (.iload_n 3, 1) := by decide +kernel
theorem d_MD_work_70 : decode prog_14_method_50_code 70 = .ok (.ifCond .ne 8, 3) := by decide +kernel
theorem d_MD_work_73 : decode prog_14_method_50_code 73 = .ok (.iload 6, 2) := by decide +kernel
theorem d_MD_work_75 : decode prog_14_method_50_code 75 = .ok (.ifCond .eq 7, 3) := by decide +kernel
theorem d_MD_work_78 : decode prog_14_method_50_code 78 = .ok (.iconst 1, 1) := by decide +kernel
theorem d_MD_work_79 : decode prog_14_method_50_code 79 = .ok (.goto 4, 3) := by decide +kernel
theorem d_MD_work_82 : decode prog_14_method_50_code 82 = .ok (.iconst 0, 1) := by decide +kernel
theorem d_MD_work_83 : decode prog_14_method_50_code 83 = .ok (.istore_n 3, 1) := by decide +kernel
theorem d_MD_work_84 : decode prog_14_method_50_code 84 = .ok (.aload_n 0, 1) := by decide +kernel
theorem d_MD_work_85 : decode prog_14_method_50_code 85 = .ok (.getfield 66, 3) := by decide +kernel
theorem d_MD_work_88 : decode prog_14_method_50_code 88 = .ok (.bipush 24, 2) := by decide +kernel
theorem d_MD_work_90 : decode prog_14_method_50_code 90 = .ok (.iload 5, 2) := by decide +kernel
theorem d_MD_work_92 : decode prog_14_method_50_code 92 = .ok (.imul, 1) := by decide +kernel
theorem d_MD_work_93 : decode prog_14_method_50_code 93 = .ok (.iload_n 2, 1) := by decide +kernel
theorem d_MD_work_94 : decode prog_14_method_50_code 94 = .ok (.iadd, 1) := by decide +kernel
theorem d_MD_work_95 : decode prog_14_method_50_code 95 = .ok (.aload_n 0, 1) := by decide +kernel
theorem d_MD_work_96 : decode prog_14_method_50_code 96 = .ok (.getfield 63, 3) := by decide +kernel
theorem d_MD_work_99 : decode prog_14_method_50_code 99 = .ok (.iload_n 2, 1) := by decide +kernel
theorem d_MD_work_100 : decode prog_14_method_50_code 100 = .ok (.iaload, 1) := by decide +kernel
theorem d_MD_work_101 : decode prog_14_method_50_code 101 = .ok (.ifCond .ne 7, 3) := by decide +kernel
theorem d_MD_work_104 : decode prog_14_method_50_code 104 = .ok (.iconst 0, 1) := by decide +kernel
theorem d_MD_work_105 : decode prog_14_method_50_code 105 = .ok (.goto 25, 3) := by decide +kernel
theorem d_MD_work_108 : decode prog_14_method_50_code 108 = .ok (.iload 6, 2) := by decide +kernel
theorem d_MD_work_110 : decode prog_14_method_50_code 110 = .ok (.i2l, 1) := by decide +kernel
theorem d_MD_work_111 : decode prog_14_method_50_code 111 = .ok (.aload_n 0, 1) := by decide +kernel
theorem d_MD_work_112 : decode prog_14_method_50_code 112 = .ok (.aload_n 0, 1) := by decide +kernel
theorem d_MD_work_113 : decode prog_14_method_50_code 113 = .ok (.getfield 63, 3) := by decide +kernel
theorem d_MD_work_116 : decode prog_14_method_50_code 116 = .ok (.iload_n 2, 1) := by decide +kernel
theorem d_MD_work_117 : decode prog_14_method_50_code 117 = .ok (.iaload, 1) := by decide +kernel
theorem d_MD_work_118 : decode prog_14_method_50_code 118 = .ok (.invokevirtual 182, 3) := by decide +kernel
theorem d_MD_work_121 : decode prog_14_method_50_code 121 = .ok (.i2l, 1) := by decide +kernel
theorem d_MD_work_122 : decode prog_14_method_50_code 122 = .ok (.lmul, 1) := by decide +kernel
theorem d_MD_work_123 : decode prog_14_method_50_code 123 = .ok (.aload_n 0, 1) := by decide +kernel
theorem d_MD_work_124 : decode prog_14_method_50_code 124 = .ok (.getfield 13, 3) := by decide +kernel
theorem d_MD_work_127 : decode prog_14_method_50_code 127 = .ok (.i2l, 1) := by decide +kernel
theorem d_MD_work_128 : decode prog_14_method_50_code 128 = .ok (.lrem, 1) := by decide +kernel
theorem d_MD_work_129 : decode prog_14_method_50_code 129 = .ok (.l2i, 1) := by decide +kernel
theorem d_MD_work_130 : decode prog_14_method_50_code 130 = .ok (.iastore, 1) := by decide +kernel
theorem d_MD_work_131 : decode prog_14_method_50_code 131 = .ok (.iinc 4 1, 3) := by decide +kernel
theorem d_MD_work_134 : decode prog_14_method_50_code 134 = .ok (.goto (-93), 3) := by decide +kernel
theorem d_MD_work_137 : decode prog_14_method_50_code 137 = .ok (.aload_n 0, 1) := by decide +kernel
theorem d_MD_work_138 : decode prog_14_method_50_code 138 = .ok (.getfield 63, 3) := by decide +kernel
theorem d_MD_work_141 : decode prog_14_method_50_code 141 = .ok (.iload_n 2, 1) := by decide +kernel
theorem d_MD_work_142 : decode prog_14_method_50_code 142 = .ok (.iaload, 1) := by decide +kernel
theorem d_MD_work_143 : decode prog_14_method_50_code 143 = .ok (.ifCond .ne 17, 3) := by decide +kernel
theorem d_MD_work_146 : decode prog_14_method_50_code 146 = .ok (.iload_n 3, 1) := by decide +kernel
theorem d_MD_work_147 : decode prog_14_method_50_code 147 = .ok (.ifCond .eq 13, 3) := by decide +kernel
theorem d_MD_work_150 : decode prog_14_method_50_code 150 = .ok (.aload_n 0, 1) := by decide +kernel
theorem d_MD_work_151 : decode prog_14_method_50_code 151 = .ok (.iload_n 2, 1) := by decide +kernel
theorem d_MD_work_152 : decode prog_14_method_50_code 152 = .ok (.putfield 60, 3) := by decide +kernel
theorem d_MD_work_155 : decode prog_14_method_50_code 155 = .ok (.aload_n 0, 1) := by decide +kernel
theorem d_MD_work_156 : decode prog_14_method_50_code 156 = .ok (.getfield 176, 3) := by decide +kernel
theorem d_MD_work_159 : decode prog_14_method_50_code 159 = .ok (.ireturn, 1) := by decide +kernel
theorem d_MD_work_160 : decode prog_14_method_50_code 160 = .ok (.aload_n 0, 1) := by decide +kernel
theorem d_MD_work_161 : decode prog_14_method_50_code 161 = .ok (.dup, 1) := by decide +kernel
theorem d_MD_work_162 : decode prog_14_method_50_code 162 = .ok (.getfield 176, 3) := by decide +kernel
theorem d_MD_work_165 : decode prog_14_method_50_code 165 = .ok (.iconst 1, 1) := by decide +kernel
theorem d_MD_work_166 : decode prog_14_method_50_code 166 = .ok (.iadd, 1) := by decide +kernel
theorem d_MD_work_167 : decode prog_14_method_50_code 167 = .ok (.putfield 176, 3) := by decide +kernel
theorem d_MD_work_170 : decode prog_14_method_50_code 170 = .ok (.iinc 1 1, 3) := by decide +kernel
theorem d_MD_work_173 : decode prog_14_method_50_code 173 = .ok (.goto (-167), 3) := by decide +kernel
theorem d_MD_work_176 : decode prog_14_method_50_code 176 = .ok (.aload_n 0, 1) := by decide +kernel
theorem d_MD_work_177 : decode prog_14_method_50_code 177 = .ok (.getfield 176, 3) := by decide +kernel
theorem d_MD_work_180 : decode prog_14_method_50_code 180 = .ok (.ireturn, 1) := by decide +kernel
def MD_work_83 (h0 : Nat) (v1 : Int32) (v2 : Int32) (v4 : Int32) (v5 : Int32) (v6 : Int32) (s0 : Int32) (I : jM) (K : Int32 → jM → Prop) (X6 : Int32 × jM → Prop) (X41 : Int32 × Int32 × jM → Prop) : Prop :=
  (vp_in v2 24 ∧ ((¬ (I (jr h0 20) v2.toNatClampNeg) = 0 → (vp_in v2 24 ∧ MD_inverse h0 (I (jr h0 20) v2.toNatClampNeg) I (fun r_1 => (¬ (I h0 1).toInt64 = 0 ∧ (vp_in (((24 : Int32) * v5) + v2) 576 ∧ (∀ I_2 : jM, I_2 = jwr I (jr h0 21) (((24 : Int32) * v5) + v2).toNatClampNeg (((v6.toInt64 * r_1.toInt64) - (v6.toInt64 * r_1.toInt64) / (I h0 1).toInt64 * (I h0 1).toInt64).toInt32) → X41 (s0, (v4 + 1), I_2))))))) ∧ ((I (jr h0 20) v2.toNatClampNeg) = 0 → (vp_in (((24 : Int32) * v5) + v2) 576 ∧ (∀ I_3 : jM, I_3 = jwr I (jr h0 21) (((24 : Int32) * v5) + v2).toNatClampNeg (0 : Int32) → X41 (s0, (v4 + 1), I_3))))))
set_option maxRecDepth 100000 in
set_option maxHeartbeats 4000000 in
theorem k_MD_work_83 {Z : jZ} {E : jE} (C : jC Z E prog_14_method_50_code 7 "OutOrderModel" 2 51) (hr : (jZh Z).sig.returnType = (some .int)) (hE : E.2.2.2 = jLM)  (h0 : Nat) (v1 : Int32) (v2 : Int32) (v4 : Int32) (v5 : Int32) (v6 : Int32) (s0 : Int32) (I : jM) (g_h0 : jOB E 11 h0) {K : Int32 → jM → Prop} {X6 : Int32 × jM → Prop} {X41 : Int32 × Int32 × jM → Prop} (hX6 : ∀ s : Int32 × jM, X6 s → jJ Z E 7 (jQi Z E K) 6 [(0, .ref (E.2.2.1 h0)), (1, .int s.1)] [] s.2) (hX41 : ∀ s : Int32 × Int32 × jM, X41 s → jJ Z E 7 (jQi Z E K) 41 [(0, .ref (E.2.2.1 h0)), (1, .int v1), (2, .int v2), (3, .int s.1), (4, .int s.2.1)] [] s.2.2) (h : MD_work_83 h0 v1 v2 v4 v5 v6 s0 I K X6 X41) : jJ Z E 7 (jQi Z E K) 83 [(0, .ref (E.2.2.1 h0)), (1, .int v1), (2, .int v2), (4, .int v4), (5, .int v5), (6, .int v6)] [.int s0] I := by
  unfold MD_work_83 at h
  refine j_istore_n C d_MD_work_83 rfl (by decide) (lv' := [(3, .int s0), (0, .ref (E.2.2.1 h0)), (1, .int v1), (2, .int v2), (4, .int v4), (5, .int v5), (6, .int v6)]) rfl ?_
  refine j_aload_n C d_MD_work_84 rfl 1 rfl ?_
  refine fg_MD_66 C g_h0 d_MD_work_85 ?_
  refine j_bipush C d_MD_work_88 ib_24 ?_
  refine j_iload C d_MD_work_90 5 rfl ?_
  refine j_imul C d_MD_work_92 ?_
  refine j_iload_n C d_MD_work_93 rfl 3 rfl ?_
  refine j_iadd C d_MD_work_94 ?_
  refine j_aload_n C d_MD_work_95 rfl 1 rfl ?_
  refine fg_MD_63 C g_h0 d_MD_work_96 ?_
  refine j_iload_n C d_MD_work_99 rfl 3 rfl ?_
  obtain ⟨hi, h⟩ := h
  refine j_iaload C (sh_MD_20 hE g_h0) hi d_MD_work_100 ?_
  refine j_if_ne C d_MD_work_101 (tgt := 108) (by decide) (fun c101 => ?_) (fun c101 => ?_)
  · have h := h.1 c101
    refine j_iload C d_MD_work_108 6 rfl ?_
    refine j_i2l C d_MD_work_110 ?_
    refine j_aload_n C d_MD_work_111 rfl 1 rfl ?_
    refine j_aload_n C d_MD_work_112 rfl 1 rfl ?_
    refine fg_MD_63 C g_h0 d_MD_work_113 ?_
    refine j_iload_n C d_MD_work_116 rfl 3 rfl ?_
    obtain ⟨hi, h⟩ := h
    refine j_iaload C (sh_MD_20 hE g_h0) hi d_MD_work_117 ?_
    refine j_callVi (As := [.int (I (jr h0 20) v2.toNatClampNeg)]) C jcl_MD cw_MD_182 w_991 ws_46 g_h0 rfl rfl (by decide) (by decide) (Nat.le_of_ble_eq_true rfl) d_MD_work_118 (s_MD_inverse C.ok g_h0 h) (fun r_1 I2 h => ?_)
    obtain ⟨rfl, h⟩ := h
    refine j_i2l C d_MD_work_121 ?_
    refine j_lmul C d_MD_work_122 ?_
    refine j_aload_n C d_MD_work_123 rfl 1 rfl ?_
    refine fg_MD_13 C g_h0 d_MD_work_124 ?_
    refine j_i2l C d_MD_work_127 ?_
    obtain ⟨hn, h⟩ := h
    refine j_lrem C d_MD_work_128 hn ?_
    refine j_l2i C d_MD_work_129 ?_
    obtain ⟨hi, h⟩ := h
    refine j_iastore C (sh_MD_21 hE g_h0) hi d_MD_work_130 ?_
    have h := h _ rfl
    generalize eI_2 : (jwr I (jr h0 21) (((24 : Int32) * v5) + v2).toNatClampNeg (((v6.toInt64 * r_1.toInt64) - (v6.toInt64 * r_1.toInt64) / (I h0 1).toInt64 * (I h0 1).toInt64).toInt32) : jM) = I_2 at h ⊢
    refine j_iinc C d_MD_work_131 4 rfl (v := (v4 + 1)) rfl (by decide) (lv' := [(4, .int (v4 + 1)), (3, .int s0), (0, .ref (E.2.2.1 h0)), (1, .int v1), (2, .int v2), (5, .int v5), (6, .int v6)]) rfl ?_
    refine j_goto C d_MD_work_134 (tgt := 41) (by decide) ?_
    refine j_lv [2, 3, 4, 1, 0] rfl ?_
    exact hX41 (s0, (v4 + 1), I_2) h
  · have h := h.2 c101
    refine j_iconst C d_MD_work_104 ic_0 ?_
    refine j_goto C d_MD_work_105 (tgt := 130) (by decide) ?_
    obtain ⟨hi, h⟩ := h
    refine j_iastore C (sh_MD_21 hE g_h0) hi d_MD_work_130 ?_
    have h := h _ rfl
    generalize eI_3 : (jwr I (jr h0 21) (((24 : Int32) * v5) + v2).toNatClampNeg (0 : Int32) : jM) = I_3 at h ⊢
    refine j_iinc C d_MD_work_131 4 rfl (v := (v4 + 1)) rfl (by decide) (lv' := [(4, .int (v4 + 1)), (3, .int s0), (0, .ref (E.2.2.1 h0)), (1, .int v1), (2, .int v2), (5, .int v5), (6, .int v6)]) rfl ?_
    refine j_goto C d_MD_work_134 (tgt := 41) (by decide) ?_
    refine j_lv [2, 3, 4, 1, 0] rfl ?_
    exact hX41 (s0, (v4 + 1), I_3) h
def MD_work_41b (h0 : Nat) (v1 : Int32) (v2 : Int32) (v3 : Int32) (v4 : Int32) (I : jM) (K : Int32 → jM → Prop) (X6 : Int32 × jM → Prop) (X41 : Int32 × Int32 × jM → Prop) : Prop :=
  (((I h0 0) ≤ v4 → (vp_in v2 24 ∧ ((¬ (I (jr h0 20) v2.toNatClampNeg) = 0 → (∀ I_1 : jM, I_1 = jwr I h0 18 ((I h0 18) + (1 : Int32)) → X6 ((v1 + 1), I_1))) ∧ ((I (jr h0 20) v2.toNatClampNeg) = 0 → ((v3 = 0 → (∀ I_2 : jM, I_2 = jwr I h0 18 ((I h0 18) + (1 : Int32)) → X6 ((v1 + 1), I_2))) ∧ (¬ v3 = 0 → (∀ I_3 : jM, I_3 = jwr I h0 19 v2 → K (I_3 h0 18) I_3))))))) ∧ (¬ (I h0 0) ≤ v4 → (vp_in v4 24 ∧ (∀ v5_4 : Int32, v5_4 = (I (jr h0 4) v4.toNatClampNeg) → MD_rest h0 v5_4 v2 v1 I (fun r_5 => ((¬ v3 = 0 → MD_work_83 h0 v1 v2 v4 v5_4 r_5 (1 : Int32) I K X6 X41) ∧ (v3 = 0 → ((r_5 = 0 → MD_work_83 h0 v1 v2 v4 v5_4 r_5 (0 : Int32) I K X6 X41) ∧ (¬ r_5 = 0 → MD_work_83 h0 v1 v2 v4 v5_4 r_5 (1 : Int32) I K X6 X41)))))))))
def MD_work_41 (h0 : Nat) (v1 : Int32) (v2 : Int32) (v3 : Int32) (v4 : Int32) (I : jM) (K : Int32 → jM → Prop) (X6 : Int32 × jM → Prop) : Prop :=
  lp (fun (X41 : Int32 × Int32 × jM → Prop) (s : Int32 × Int32 × jM) => MD_work_41b h0 v1 v2 s.1 s.2.1 s.2.2 K X6 X41) (v3, v4, I)
set_option maxRecDepth 100000 in
set_option maxHeartbeats 4000000 in
theorem kb_MD_work_41 {Z : jZ} {E : jE} (C : jC Z E prog_14_method_50_code 7 "OutOrderModel" 2 51) (hr : (jZh Z).sig.returnType = (some .int)) (hE : E.2.2.2 = jLM)  (h0 : Nat) (v1 : Int32) (v2 : Int32) (v3 : Int32) (v4 : Int32) (I : jM) (g_h0 : jOB E 11 h0) {K : Int32 → jM → Prop} {X6 : Int32 × jM → Prop} (hX6 : ∀ s : Int32 × jM, X6 s → jJ Z E 7 (jQi Z E K) 6 [(0, .ref (E.2.2.1 h0)), (1, .int s.1)] [] s.2) {X41 : Int32 × Int32 × jM → Prop} (hX41 : ∀ s : Int32 × Int32 × jM, X41 s → jJ Z E 7 (jQi Z E K) 41 [(0, .ref (E.2.2.1 h0)), (1, .int v1), (2, .int v2), (3, .int s.1), (4, .int s.2.1)] [] s.2.2) (h : MD_work_41b h0 v1 v2 v3 v4 I K X6 X41) : jJ Z E 7 (jQi Z E K) 41 [(0, .ref (E.2.2.1 h0)), (1, .int v1), (2, .int v2), (3, .int v3), (4, .int v4)] [] I := by
  unfold MD_work_41b at h
  refine j_iload C d_MD_work_41 4 rfl ?_
  refine j_aload_n C d_MD_work_43 rfl 0 rfl ?_
  refine fg_MD_7 C g_h0 d_MD_work_44 ?_
  refine j_icmp_ge C d_MD_work_47 (tgt := 137) (by decide) (fun c47 => ?_) (fun c47 => ?_)
  · have h := h.1 c47
    refine j_aload_n C d_MD_work_137 rfl 0 rfl ?_
    refine fg_MD_63 C g_h0 d_MD_work_138 ?_
    refine j_iload_n C d_MD_work_141 rfl 2 rfl ?_
    obtain ⟨hi, h⟩ := h
    refine j_iaload C (sh_MD_20 hE g_h0) hi d_MD_work_142 ?_
    refine j_if_ne C d_MD_work_143 (tgt := 160) (by decide) (fun c143 => ?_) (fun c143 => ?_)
    · have h := h.1 c143
      refine j_aload_n C d_MD_work_160 rfl 0 rfl ?_
      refine j_dup C d_MD_work_161 rfl ?_
      refine fg_MD_176 C g_h0 d_MD_work_162 ?_
      refine j_iconst C d_MD_work_165 ic_1 ?_
      refine j_iadd C d_MD_work_166 ?_
      refine fp_MD_176 C g_h0 d_MD_work_167 ?_
      have h := h _ rfl
      generalize eI_1 : (jwr I h0 18 ((I h0 18) + (1 : Int32)) : jM) = I_1 at h ⊢
      refine j_iinc C d_MD_work_170 1 rfl (v := (v1 + 1)) rfl (by decide) (lv' := [(1, .int (v1 + 1)), (0, .ref (E.2.2.1 h0)), (2, .int v2), (3, .int v3), (4, .int v4)]) rfl ?_
      refine j_goto C d_MD_work_173 (tgt := 6) (by decide) ?_
      refine j_lv [1, 0] rfl ?_
      exact hX6 ((v1 + 1), I_1) h
    · have h := h.2 c143
      refine j_iload_n C d_MD_work_146 rfl 3 rfl ?_
      refine j_if_eq C d_MD_work_147 (tgt := 160) (by decide) (fun c147 => ?_) (fun c147 => ?_)
      · have h := h.1 c147
        refine j_aload_n C d_MD_work_160 rfl 0 rfl ?_
        refine j_dup C d_MD_work_161 rfl ?_
        refine fg_MD_176 C g_h0 d_MD_work_162 ?_
        refine j_iconst C d_MD_work_165 ic_1 ?_
        refine j_iadd C d_MD_work_166 ?_
        refine fp_MD_176 C g_h0 d_MD_work_167 ?_
        have h := h _ rfl
        generalize eI_2 : (jwr I h0 18 ((I h0 18) + (1 : Int32)) : jM) = I_2 at h ⊢
        refine j_iinc C d_MD_work_170 1 rfl (v := (v1 + 1)) rfl (by decide) (lv' := [(1, .int (v1 + 1)), (0, .ref (E.2.2.1 h0)), (2, .int v2), (3, .int v3), (4, .int v4)]) rfl ?_
        refine j_goto C d_MD_work_173 (tgt := 6) (by decide) ?_
        refine j_lv [1, 0] rfl ?_
        exact hX6 ((v1 + 1), I_2) h
      · have h := h.2 c147
        refine j_aload_n C d_MD_work_150 rfl 0 rfl ?_
        refine j_iload_n C d_MD_work_151 rfl 2 rfl ?_
        refine fp_MD_60 C g_h0 d_MD_work_152 ?_
        have h := h _ rfl
        generalize eI_3 : (jwr I h0 19 v2 : jM) = I_3 at h ⊢
        refine j_aload_n C d_MD_work_155 rfl 0 rfl ?_
        refine fg_MD_176 C g_h0 d_MD_work_156 ?_
        exact j_iret C hr d_MD_work_159 h
  · have h := h.2 c47
    refine j_aload_n C d_MD_work_50 rfl 0 rfl ?_
    refine fg_MD_24 C g_h0 d_MD_work_51 ?_
    refine j_iload C d_MD_work_54 4 rfl ?_
    obtain ⟨hi, h⟩ := h
    refine j_iaload C (sh_MD_4 hE g_h0) hi d_MD_work_56 ?_
    refine j_topi (fun v5_4 ev5_4 => ?_)
    have h := h v5_4 ev5_4
    refine j_istore C d_MD_work_57 (by decide) (lv' := [(5, .int v5_4), (0, .ref (E.2.2.1 h0)), (1, .int v1), (2, .int v2), (3, .int v3), (4, .int v4)]) rfl ?_
    refine j_aload_n C d_MD_work_59 rfl 1 rfl ?_
    refine j_iload C d_MD_work_60 0 rfl ?_
    refine j_iload_n C d_MD_work_62 rfl 3 rfl ?_
    refine j_iload_n C d_MD_work_63 rfl 2 rfl ?_
    refine j_callVi (As := [.int v5_4, .int v2, .int v1]) C jcl_MD cw_MD_179 w_987 ws_45 g_h0 rfl rfl (by decide) (by decide) (Nat.le_of_ble_eq_true rfl) d_MD_work_64 (s_MD_rest C.ok hE g_h0 h) (fun r_5 I2 h => ?_)
    obtain ⟨rfl, h⟩ := h
    refine j_istore C d_MD_work_67 (by decide) (lv' := [(6, .int r_5), (5, .int v5_4), (0, .ref (E.2.2.1 h0)), (1, .int v1), (2, .int v2), (3, .int v3), (4, .int v4)]) rfl ?_
    refine j_iload_n C d_MD_work_69 rfl 5 rfl ?_
    refine j_if_ne C d_MD_work_70 (tgt := 78) (by decide) (fun c70 => ?_) (fun c70 => ?_)
    · have h := h.1 c70
      refine j_iconst C d_MD_work_78 ic_1 ?_
      refine j_goto C d_MD_work_79 (tgt := 83) (by decide) ?_
      refine j_lv [2, 3, 4, 6, 1, 0] rfl ?_
      exact k_MD_work_83 C hr hE h0 v1 v2 v4 v5_4 r_5 (1 : Int32) I g_h0 hX6 hX41 h
    · have h := h.2 c70
      refine j_iload C d_MD_work_73 0 rfl ?_
      refine j_if_eq C d_MD_work_75 (tgt := 82) (by decide) (fun c75 => ?_) (fun c75 => ?_)
      · have h := h.1 c75
        refine j_iconst C d_MD_work_82 ic_0 ?_
        refine j_lv [2, 3, 4, 6, 1, 0] rfl ?_
        exact k_MD_work_83 C hr hE h0 v1 v2 v4 v5_4 r_5 (0 : Int32) I g_h0 hX6 hX41 h
      · have h := h.2 c75
        refine j_iconst C d_MD_work_78 ic_1 ?_
        refine j_goto C d_MD_work_79 (tgt := 83) (by decide) ?_
        refine j_lv [2, 3, 4, 6, 1, 0] rfl ?_
        exact k_MD_work_83 C hr hE h0 v1 v2 v4 v5_4 r_5 (1 : Int32) I g_h0 hX6 hX41 h
theorem k_MD_work_41 {Z : jZ} {E : jE} (C : jC Z E prog_14_method_50_code 7 "OutOrderModel" 2 51) (hr : (jZh Z).sig.returnType = (some .int)) (hE : E.2.2.2 = jLM)  (h0 : Nat) (v1 : Int32) (v2 : Int32) (v3 : Int32) (v4 : Int32) (I : jM) (g_h0 : jOB E 11 h0) {K : Int32 → jM → Prop} {X6 : Int32 × jM → Prop} (hX6 : ∀ s : Int32 × jM, X6 s → jJ Z E 7 (jQi Z E K) 6 [(0, .ref (E.2.2.1 h0)), (1, .int s.1)] [] s.2) (h : MD_work_41 h0 v1 v2 v3 v4 I K X6) : jJ Z E 7 (jQi Z E K) 41 [(0, .ref (E.2.2.1 h0)), (1, .int v1), (2, .int v2), (3, .int v3), (4, .int v4)] [] I := by
  unfold MD_work_41 at h
  exact h (fun s => jJ Z E 7 (jQi Z E K) 41 [(0, .ref (E.2.2.1 h0)), (1, .int v1), (2, .int v2), (3, .int s.1), (4, .int s.2.1)] [] s.2.2) (fun s hs => kb_MD_work_41 C hr hE h0 v1 v2 s.1 s.2.1 s.2.2 g_h0 hX6 (fun s2 h2 => h2) hs)
def MD_work_6b (h0 : Nat) (v1 : Int32) (I : jM) (K : Int32 → jM → Prop) (X6 : Int32 × jM → Prop) : Prop :=
  (((I h0 0) ≤ v1 → K (I h0 18) I) ∧ (¬ (I h0 0) ≤ v1 → (vp_in v1 24 ∧ (∀ v2_1 : Int32, v2_1 = (I (jr h0 4) v1.toNatClampNeg) → MD_rest h0 v2_1 v2_1 v1 I (fun r_2 => (vp_in v2_1 24 ∧ (∀ I_3 : jM, I_3 = jwr I (jr h0 20) v2_1.toNatClampNeg r_2 → (∀ v4_4 : Int32, v4_4 = (v1 + (1 : Int32)) → MD_work_41 h0 v1 v2_1 (0 : Int32) v4_4 I_3 K X6))))))))
def MD_work_6 (h0 : Nat) (v1 : Int32) (I : jM) (K : Int32 → jM → Prop) : Prop :=
  lp (fun (X6 : Int32 × jM → Prop) (s : Int32 × jM) => MD_work_6b h0 s.1 s.2 K X6) (v1, I)
set_option maxRecDepth 100000 in
set_option maxHeartbeats 4000000 in
theorem kb_MD_work_6 {Z : jZ} {E : jE} (C : jC Z E prog_14_method_50_code 7 "OutOrderModel" 2 51) (hr : (jZh Z).sig.returnType = (some .int)) (hE : E.2.2.2 = jLM)  (h0 : Nat) (v1 : Int32) (I : jM) (g_h0 : jOB E 11 h0) {K : Int32 → jM → Prop} {X6 : Int32 × jM → Prop} (hX6 : ∀ s : Int32 × jM, X6 s → jJ Z E 7 (jQi Z E K) 6 [(0, .ref (E.2.2.1 h0)), (1, .int s.1)] [] s.2) (h : MD_work_6b h0 v1 I K X6) : jJ Z E 7 (jQi Z E K) 6 [(0, .ref (E.2.2.1 h0)), (1, .int v1)] [] I := by
  unfold MD_work_6b at h
  refine j_iload_n C d_MD_work_6 rfl 1 rfl ?_
  refine j_aload_n C d_MD_work_7 rfl 0 rfl ?_
  refine fg_MD_7 C g_h0 d_MD_work_8 ?_
  refine j_icmp_ge C d_MD_work_11 (tgt := 176) (by decide) (fun c11 => ?_) (fun c11 => ?_)
  · have h := h.1 c11
    refine j_aload_n C d_MD_work_176 rfl 0 rfl ?_
    refine fg_MD_176 C g_h0 d_MD_work_177 ?_
    exact j_iret C hr d_MD_work_180 h
  · have h := h.2 c11
    refine j_aload_n C d_MD_work_14 rfl 0 rfl ?_
    refine fg_MD_24 C g_h0 d_MD_work_15 ?_
    refine j_iload_n C d_MD_work_18 rfl 1 rfl ?_
    obtain ⟨hi, h⟩ := h
    refine j_iaload C (sh_MD_4 hE g_h0) hi d_MD_work_19 ?_
    refine j_topi (fun v2_1 ev2_1 => ?_)
    have h := h v2_1 ev2_1
    refine j_istore_n C d_MD_work_20 rfl (by decide) (lv' := [(2, .int v2_1), (0, .ref (E.2.2.1 h0)), (1, .int v1)]) rfl ?_
    refine j_aload_n C d_MD_work_21 rfl 1 rfl ?_
    refine fg_MD_63 C g_h0 d_MD_work_22 ?_
    refine j_iload_n C d_MD_work_25 rfl 0 rfl ?_
    refine j_aload_n C d_MD_work_26 rfl 1 rfl ?_
    refine j_iload_n C d_MD_work_27 rfl 0 rfl ?_
    refine j_iload_n C d_MD_work_28 rfl 0 rfl ?_
    refine j_iload_n C d_MD_work_29 rfl 2 rfl ?_
    refine j_callVi (As := [.int v2_1, .int v2_1, .int v1]) C jcl_MD cw_MD_179 w_987 ws_45 g_h0 rfl rfl (by decide) (by decide) (Nat.le_of_ble_eq_true rfl) d_MD_work_30 (s_MD_rest C.ok hE g_h0 h) (fun r_2 I2 h => ?_)
    obtain ⟨rfl, h⟩ := h
    obtain ⟨hi, h⟩ := h
    refine j_iastore C (sh_MD_20 hE g_h0) hi d_MD_work_33 ?_
    have h := h _ rfl
    generalize eI_3 : (jwr I (jr h0 20) v2_1.toNatClampNeg r_2 : jM) = I_3 at h ⊢
    refine j_iconst C d_MD_work_34 ic_0 ?_
    refine j_istore_n C d_MD_work_35 rfl (by decide) (lv' := [(3, .int (0 : Int32)), (2, .int v2_1), (0, .ref (E.2.2.1 h0)), (1, .int v1)]) rfl ?_
    refine j_iload_n C d_MD_work_36 rfl 3 rfl ?_
    refine j_iconst C d_MD_work_37 ic_1 ?_
    refine j_iadd C d_MD_work_38 ?_
    refine j_topi (fun v4_4 ev4_4 => ?_)
    have h := h v4_4 ev4_4
    refine j_istore C d_MD_work_39 (by decide) (lv' := [(4, .int v4_4), (3, .int (0 : Int32)), (2, .int v2_1), (0, .ref (E.2.2.1 h0)), (1, .int v1)]) rfl ?_
    refine j_lv [3, 4, 2, 1, 0] rfl ?_
    exact k_MD_work_41 C hr hE h0 v1 v2_1 (0 : Int32) v4_4 I_3 g_h0 hX6 h
theorem k_MD_work_6 {Z : jZ} {E : jE} (C : jC Z E prog_14_method_50_code 7 "OutOrderModel" 2 51) (hr : (jZh Z).sig.returnType = (some .int)) (hE : E.2.2.2 = jLM)  (h0 : Nat) (v1 : Int32) (I : jM) (g_h0 : jOB E 11 h0) {K : Int32 → jM → Prop} (h : MD_work_6 h0 v1 I K) : jJ Z E 7 (jQi Z E K) 6 [(0, .ref (E.2.2.1 h0)), (1, .int v1)] [] I := by
  unfold MD_work_6 at h
  exact h (fun s => jJ Z E 7 (jQi Z E K) 6 [(0, .ref (E.2.2.1 h0)), (1, .int s.1)] [] s.2) (fun s hs => kb_MD_work_6 C hr hE h0 s.1 s.2 g_h0 (fun s2 h2 => h2) hs)
/-- OutOrderModel.work()I -/
def MD_work (h0 : Nat) (I : jM) (K : Int32 → jM → Prop) : Prop :=
  MD_notWorked h0 I (fun I_2 => MD_work_6 h0 (0 : Int32) I_2 K)
set_option maxRecDepth 100000 in
set_option maxHeartbeats 4000000 in
theorem s_MD_work {l : Launch} {E : jE} (ok : jOK E) (hE : E.2.2.2 = jLM) {h0 : Nat} (g_h0 : jOB E 11 h0) {I : jM} {K : Int32 → jM → Prop} (h : MD_work h0 I K) : jSi l E ⟨"OutOrderModel", "work", "()I"⟩ prog_14_method_50_code 7 (some .int) 2 51 [.ref (E.2.2.1 h0)] I K := by
  refine jS_ofF (own := "OutOrderModel") (by decide +kernel) rfl ok (Nat.le_of_ble_eq_true rfl) (fun Z _ C hr => ?_)
  show jJ Z E 7 (jQi Z E K) 0 [(0, .ref (E.2.2.1 h0))] [] I
  unfold MD_work at h
  refine j_aload_n C d_MD_work_0 rfl 0 rfl ?_
  refine j_callVv (As := []) C jcl_MD cw_MD_83 w_813 ws_24 g_h0 rfl rfl (by decide) (by decide) (Nat.le_of_ble_eq_true rfl) d_MD_work_1 (s_MD_notWorked C.ok g_h0 h) (fun I_2 h => ?_)
  refine j_iconst C d_MD_work_4 ic_0 ?_
  refine j_istore_n C d_MD_work_5 rfl (by decide) (lv' := [(1, .int (0 : Int32)), (0, .ref (E.2.2.1 h0))]) rfl ?_
  refine j_lv [1, 0] rfl ?_
  exact k_MD_work_6 C hr hE h0 (0 : Int32) I_2 g_h0 h
