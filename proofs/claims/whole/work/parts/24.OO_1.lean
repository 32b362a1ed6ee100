theorem d_OO_one_0 : decode prog_1_method_23_code 0 = .ok (.aload_n 0, 1) := by decide +kernel
theorem d_OO_one_1 : decode prog_1_method_23_code 1 = .ok (.iload_n 1, 1) := by decide +kernel
theorem d_OO_one_2 : decode prog_1_method_23_code 2 = .ok (.invokevirtual 83, 3) := by decide +kernel
theorem d_OO_one_5 : decode prog_1_method_23_code 5 = .ok (.ifCond .ne 11, 3) := by decide +kernel
theorem d_OO_one_8 : decode prog_1_method_23_code 8 = .ok (.aload_n 0, 1) := by decide +kernel
theorem d_OO_one_9 : decode prog_1_method_23_code 9 = .ok (.iload_n 2, 1) := by decide +kernel
theorem d_OO_one_10 : decode prog_1_method_23_code 10 = .ok (.invokevirtual 83, 3) := by decide +kernel
theorem d_OO_one_13 : decode prog_1_method_23_code 13 = .ok (.ifCond .eq 9, 3) := by decide +kernel
theorem d_OO_one_16 : decode prog_1_method_23_code 16 = .ok (.aload_n 0, 1) := by decide +kernel
theorem d_OO_one_17 : decode prog_1_method_23_code 17 = .ok (.iconst (-1), 1) := by decide +kernel
theorem d_OO_one_18 : decode prog_1_method_23_code 18 = .ok (.invokevirtual 73, 3) := by decide +kernel
theorem d_OO_one_21 : decode prog_1_method_23_code 21 = .ok (.ireturn, 1) := by decide +kernel
theorem d_OO_one_22 : decode prog_1_method_23_code 22 = .ok (.aload_n 0, 1) := by decide +kernel
theorem d_OO_one_23 : decode prog_1_method_23_code 23 = .ok (.getfield 19, 3) := by decide +kernel
theorem d_OO_one_26 : decode prog_1_method_23_code 26 = .ok (.getfield 130, 3) := by decide +kernel
theorem d_OO_one_29 : decode prog_1_method_23_code 29 = .ok (.iload_n 2, 1) := by decide +kernel
theorem d_OO_one_30 : decode prog_1_method_23_code 30 = .ok (.iaload, 1) := by decide +kernel
theorem d_OO_one_31 : decode prog_1_method_23_code 31 = .ok (.aload_n 0, 1) := by decide +kernel
theorem d_OO_one_32 : decode prog_1_method_23_code 32 = .ok (.getfield 54, 3) := by decide +kernel
theorem d_OO_one_35 : decode prog_1_method_23_code 35 = .ok (.getfield 215, 3) := by decide +kernel
theorem d_OO_one_38 : decode prog_1_method_23_code 38 = .ok (.if_icmp .lt 10, 3) := by decide +kernel
theorem d_OO_one_41 : decode prog_1_method_23_code 41 = .ok (.aload_n 0, 1) := by decide +kernel
theorem d_OO_one_42 : decode prog_1_method_23_code 42 = .ok (.bipush (-5), 2) := by decide +kernel
theorem d_OO_one_44 : decode prog_1_method_23_code 44 = .ok (.invokevirtual 73, 3) := by decide +kernel
theorem d_OO_one_47 : decode prog_1_method_23_code 47 = .ok (.ireturn, 1) := by decide +kernel
theorem d_OO_one_48 : decode prog_1_method_23_code 48 = .ok (.aload_n 0, 1) := by decide +kernel
theorem d_OO_one_49 : decode prog_1_method_23_code 49 = .ok (.getfield 54, 3) := by decide +kernel
theorem d_OO_one_52 : decode prog_1_method_23_code 52 = .ok (.aload_n 0, 1) := by decide +kernel
theorem d_OO_one_53 : decode prog_1_method_23_code 53 = .ok (.getfield 19, 3) := by decide +kernel
theorem d_OO_one_56 : decode prog_1_method_23_code 56 = .ok (.getfield 130, 3) := by decide +kernel
theorem d_OO_one_59 : decode prog_1_method_23_code 59 = .ok (.iload_n 1, 1) := by decide +kernel
theorem d_OO_one_60 : decode prog_1_method_23_code 60 = .ok (.iaload, 1) := by decide +kernel
theorem d_OO_one_61 : decode prog_1_method_23_code 61 = .ok (.aload_n 0, 1) := by decide +kernel
theorem d_OO_one_62 : decode prog_1_method_23_code 62 = .ok (.getfield 19, 3) := by decide +kernel
theorem d_OO_one_65 : decode prog_1_method_23_code 65 = .ok (.getfield 130, 3) := by decide +kernel
theorem d_OO_one_68 : decode prog_1_method_23_code 68 = .ok (.iload_n 2, 1) := by decide +kernel
theorem d_OO_one_69 : decode prog_1_method_23_code 69 = .ok (.iaload, 1) := by decide +kernel
theorem d_OO_one_70 : decode prog_1_method_23_code 70 = .ok (.invokevirtual 224, 3) := by decide +kernel
theorem d_OO_one_73 : decode prog_1_method_23_code 73 = .ok (.ireturn, 1) := by decide +kernel
def OO_one_16 (h0 : Nat) (I : jM) (K : Int32 → jM → Prop) : Prop :=
  OO_refuse h0 (-1 : Int32) I (fun r_1 I_2 => K r_1 I_2)
set_option maxRecDepth 100000 in
set_option maxHeartbeats 4000000 in
theorem k_OO_one_16 {Z : jZ} {E : jE} (C : jC Z E prog_1_method_23_code 3 "OutOrder" 1 22) (hr : (jZh Z).sig.returnType = (some .int)) (hE : E.2.2.2 = jLX)  (h0 : Nat) (I : jM) (g_h0 : jOB E 10 h0) {K : Int32 → jM → Prop} (h : OO_one_16 h0 I K) : jJ Z E 3 (jQi Z E K) 16 [(0, .ref (E.2.2.1 h0))] [] I := by
  unfold OO_one_16 at h
  refine j_aload_n C d_OO_one_16 rfl 0 rfl ?_
  refine j_iconst C d_OO_one_17 ic_m1 ?_
  refine j_callVi (As := [.int (-1 : Int32)]) C jcl_OO cw_OO_73 w_352 ws_3 g_h0 rfl rfl (by decide) (by decide) (Nat.le_of_ble_eq_true rfl) d_OO_one_18 (s_OO_refuse C.ok hE g_h0 h) (fun r_1 I_2 h => ?_)
  exact j_iret C hr d_OO_one_21 h
/-- OutOrder.one(II)I -/
def OO_one (h0 : Nat) (v1 : Int32) (v2 : Int32) (I : jM) (K : Int32 → jM → Prop) : Prop :=
  OO_isNobody h0 v1 I (fun r_1 => ((¬ r_1 = 0 → OO_one_16 h0 I K) ∧ (r_1 = 0 → OO_isNobody h0 v2 I (fun r_2 => ((r_2 = 0 → (vp_in v2 24 ∧ (((I (jr (jr h0 1) 1) v2.toNatClampNeg) < (I (jr h0 6) 4) → (vp_in v1 24 ∧ (vp_in v2 24 ∧ WO_share (jr h0 6) (I (jr (jr h0 1) 1) v1.toNatClampNeg) (I (jr (jr h0 1) 1) v2.toNatClampNeg) I (fun r_3 => K r_3 I)))) ∧ (¬ (I (jr (jr h0 1) 1) v2.toNatClampNeg) < (I (jr h0 6) 4) → OO_refuse h0 (-5 : Int32) I (fun r_4 I_5 => K r_4 I_5))))) ∧ (¬ r_2 = 0 → OO_one_16 h0 I K))))))
set_option maxRecDepth 100000 in
set_option maxHeartbeats 4000000 in
theorem s_OO_one {l : Launch} {E : jE} (ok : jOK E) (hE : E.2.2.2 = jLX) {h0 : Nat} {v1 : Int32} {v2 : Int32} (g_h0 : jOB E 10 h0) {I : jM} {K : Int32 → jM → Prop} (h : OO_one h0 v1 v2 I K) : jSi l E ⟨"OutOrder", "one", "(II)I"⟩ prog_1_method_23_code 3 (some .int) 1 22 [.ref (E.2.2.1 h0), .int v1, .int v2] I K := by
  refine jS_ofF (own := "OutOrder") (by decide +kernel) rfl ok (Nat.le_of_ble_eq_true rfl) (fun Z _ C hr => ?_)
  show jJ Z E 3 (jQi Z E K) 0 [(0, .ref (E.2.2.1 h0)), (1, .int v1), (2, .int v2)] [] I
  unfold OO_one at h
  refine j_aload_n C d_OO_one_0 rfl 0 rfl ?_
  refine j_iload_n C d_OO_one_1 rfl 1 rfl ?_
  refine j_callVi (As := [.int v1]) C jcl_OO cw_OO_83 w_363 ws_4 g_h0 rfl rfl (by decide) (by decide) (Nat.le_of_ble_eq_true rfl) d_OO_one_2 (s_OO_isNobody C.ok hE g_h0 h) (fun r_1 I2 h => ?_)
  obtain ⟨rfl, h⟩ := h
  refine j_if_ne C d_OO_one_5 (tgt := 16) (by decide) (fun c5 => ?_) (fun c5 => ?_)
  · have h := h.1 c5
    refine j_lv [0] rfl ?_
    exact k_OO_one_16 C hr hE h0 I g_h0 h
  · have h := h.2 c5
    refine j_aload_n C d_OO_one_8 rfl 0 rfl ?_
    refine j_iload_n C d_OO_one_9 rfl 2 rfl ?_
    refine j_callVi (As := [.int v2]) C jcl_OO cw_OO_83 w_363 ws_4 g_h0 rfl rfl (by decide) (by decide) (Nat.le_of_ble_eq_true rfl) d_OO_one_10 (s_OO_isNobody C.ok hE g_h0 h) (fun r_2 I2 h => ?_)
    obtain ⟨rfl, h⟩ := h
    refine j_if_eq C d_OO_one_13 (tgt := 22) (by decide) (fun c13 => ?_) (fun c13 => ?_)
    · have h := h.1 c13
      refine j_aload_n C d_OO_one_22 rfl 0 rfl ?_
      refine fg_OO_19 C g_h0 d_OO_one_23 ?_
      refine fg_OO_130 C (sh_OO_1 hE g_h0) d_OO_one_26 ?_
      refine j_iload_n C d_OO_one_29 rfl 2 rfl ?_
      obtain ⟨hi, h⟩ := h
      refine j_iaload C (sh_RO_1 hE (sh_OO_1 hE g_h0)) hi d_OO_one_30 ?_
      refine j_aload_n C d_OO_one_31 rfl 0 rfl ?_
      refine fg_OO_54 C g_h0 d_OO_one_32 ?_
      refine fg_OO_215 C (sh_OO_6 hE g_h0) d_OO_one_35 ?_
      refine j_icmp_lt C d_OO_one_38 (tgt := 48) (by decide) (fun c38 => ?_) (fun c38 => ?_)
      · have h := h.1 c38
        refine j_aload_n C d_OO_one_48 rfl 0 rfl ?_
        refine fg_OO_54 C g_h0 d_OO_one_49 ?_
        refine j_aload_n C d_OO_one_52 rfl 0 rfl ?_
        refine fg_OO_19 C g_h0 d_OO_one_53 ?_
        refine fg_OO_130 C (sh_OO_1 hE g_h0) d_OO_one_56 ?_
        refine j_iload_n C d_OO_one_59 rfl 1 rfl ?_
        obtain ⟨hi, h⟩ := h
        refine j_iaload C (sh_RO_1 hE (sh_OO_1 hE g_h0)) hi d_OO_one_60 ?_
        refine j_aload_n C d_OO_one_61 rfl 0 rfl ?_
        refine fg_OO_19 C g_h0 d_OO_one_62 ?_
        refine fg_OO_130 C (sh_OO_1 hE g_h0) d_OO_one_65 ?_
        refine j_iload_n C d_OO_one_68 rfl 2 rfl ?_
        obtain ⟨hi, h⟩ := h
        refine j_iaload C (sh_RO_1 hE (sh_OO_1 hE g_h0)) hi d_OO_one_69 ?_
        refine j_callVi (As := [.int (I (jr (jr h0 1) 1) v1.toNatClampNeg), .int (I (jr (jr h0 1) 1) v2.toNatClampNeg)]) C jcl_WO cw_OO_224 w_657 w_658 (sh_OO_6 hE g_h0) rfl rfl (by decide) (by decide) (Nat.le_of_ble_eq_true rfl) d_OO_one_70 (s_WO_share C.ok hE (sh_OO_6 hE g_h0) h) (fun r_3 I2 h => ?_)
        obtain ⟨rfl, h⟩ := h
        exact j_iret C hr d_OO_one_73 h
      · have h := h.2 c38
        refine j_aload_n C d_OO_one_41 rfl 0 rfl ?_
        refine j_bipush C d_OO_one_42 ib_m5 ?_
        refine j_callVi (As := [.int (-5 : Int32)]) C jcl_OO cw_OO_73 w_352 ws_3 g_h0 rfl rfl (by decide) (by decide) (Nat.le_of_ble_eq_true rfl) d_OO_one_44 (s_OO_refuse C.ok hE g_h0 h) (fun r_4 I_5 h => ?_)
        exact j_iret C hr d_OO_one_47 h
    · have h := h.2 c13
      refine j_lv [0] rfl ?_
      exact k_OO_one_16 C hr hE h0 I g_h0 h
theorem d_OO_order_0 : decode prog_1_method_6_code 0 = .ok (.iload_n 1, 1) := by decide +kernel
theorem d_OO_order_1 : decode prog_1_method_6_code 1 = .ok (.ifCond .lt 9, 3) := by decide +kernel
theorem d_OO_order_4 : decode prog_1_method_6_code 4 = .ok (.iload_n 1, 1) := by decide +kernel
theorem d_OO_order_5 : decode prog_1_method_6_code 5 = .ok (.bipush 6, 2) := by decide +kernel
theorem d_OO_order_7 : decode prog_1_method_6_code 7 = .ok (.if_icmp .le 10, 3) := by decide +kernel
theorem d_OO_order_10 : decode prog_1_method_6_code 10 = .ok (.aload_n 0, 1) := by decide +kernel
theorem d_OO_order_11 : decode prog_1_method_6_code 11 = .ok (.bipush (-2), 2) := by decide +kernel
theorem d_OO_order_13 : decode prog_1_method_6_code 13 = .ok (.invokevirtual 73, 3) := by decide +kernel
theorem d_OO_order_16 : decode prog_1_method_6_code 16 = .ok (.ireturn, 1) := by decide +kernel
theorem d_OO_order_17 : decode prog_1_method_6_code 17 = .ok (.iload_n 1, 1) := by decide +kernel
theorem d_OO_order_18 : decode prog_1_method_6_code 18 = .ok (.iconst 3, 1) := by decide +kernel
theorem d_OO_order_19 : decode prog_1_method_6_code 19 = .ok (.if_icmp .lt 9, 3) := by decide +kernel
theorem d_OO_order_22 : decode prog_1_method_6_code 22 = .ok (.iload_n 1, 1) := by decide +kernel
theorem d_OO_order_23 : decode prog_1_method_6_code 23 = .ok (.bipush 6, 2) := by decide +kernel
theorem d_OO_order_25 : decode prog_1_method_6_code 25 = .ok (.if_icmp .ne 7, 3) := by decide +kernel
theorem d_OO_order_28 : decode prog_1_method_6_code 28 = .ok (.iconst 1, 1) := by decide +kernel
theorem d_OO_order_29 : decode prog_1_method_6_code 29 = .ok (.goto 4, 3) := by decide +kernel
theorem d_OO_order_32 : decode prog_1_method_6_code 32 = .ok (.iconst 0, 1) := by decide +kernel
theorem d_OO_order_33 : decode prog_1_method_6_code 33 = .ok (.istore_n 2, 1) := by decide +kernel
theorem d_OO_order_34 : decode prog_1_method_6_code 34 = .ok (.iload_n 2, 1) := by decide +kernel
theorem d_OO_order_35 : decode prog_1_method_6_code 35 = .ok (.ifCond .ne 20, 3) := by decide +kernel
theorem d_OO_order_38 : decode prog_1_method_6_code 38 = .ok (.aload_n 0, 1) := by decide +kernel
theorem d_OO_order_39 : decode prog_1_method_6_code 39 = .ok (.getfield 12, 3) := by decide +kernel
theorem d_OO_order_42 : decode prog_1_method_6_code 42 = .ok (.getfield 100, 3) := by decide +kernel
theorem d_OO_order_45 : decode prog_1_method_6_code 45 = .ok (.ifCond .eq 10, 3) := by decide +kernel
theorem d_OO_order_48 : decode prog_1_method_6_code 48 = .ok (.aload_n 0, 1) := by decide +kernel
theorem d_OO_order_49 : decode prog_1_method_6_code 49 = .ok (.bipush (-5), 2) := by decide +kernel
theorem d_OO_order_51 : decode prog_1_method_6_code 51 = .ok (.invokevirtual 73, 3) := by decide +kernel
theorem d_OO_order_54 : decode prog_1_method_6_code 54 = .ok (.ireturn, 1) := by decide +kernel
theorem d_OO_order_55 : decode prog_1_method_6_code 55 = .ok (.iload_n 1, 1) := by decide +kernel
theorem d_OO_order_56 : decode prog_1_method_6_code 56 = .ok (.iconst 4, 1) := by decide +kernel
theorem d_OO_order_57 : decode prog_1_method_6_code 57 = .ok (.if_icmp .eq 8, 3) := by decide +kernel
theorem d_OO_order_60 : decode prog_1_method_6_code 60 = .ok (.iload_n 1, 1) := by decide +kernel
theorem d_OO_order_61 : decode prog_1_method_6_code 61 = .ok (.iconst 5, 1) := by decide +kernel
theorem d_OO_order_62 : decode prog_1_method_6_code 62 = .ok (.if_icmp .ne 7, 3) := by decide +kernel
theorem d_OO_order_65 : decode prog_1_method_6_code 65 = .ok (.iconst 1, 1) := by decide +kernel
theorem d_OO_order_66 : decode prog_1_method_6_code 66 = .ok (.goto 4, 3) := by decide +kernel
theorem d_OO_order_69 : decode prog_1_method_6_code 69 = .ok (.iconst 0, 1) := by decide +kernel
theorem d_OO_order_70 : decode prog_1_method_6_code 70 = .ok (.istore_n 3, 1) := by decide +kernel
theorem d_OO_order_71 : decode prog_1_method_6_code 71 = .ok (.iload_n 3, 1) := by decide +kernel
theorem d_OO_order_72 : decode prog_1_method_6_code 72 = .ok (.ifCond .eq 22, 3) := by decide +kernel
theorem d_OO_order_75 : decode prog_1_method_6_code 75 = .ok (.aload_n 0, 1) := by decide +kernel
theorem d_OO_order_76 : decode prog_1_method_6_code 76 = .ok (.getfield 12, 3) := by decide +kernel
theorem d_OO_order_79 : decode prog_1_method_6_code 79 = .ok (.getfield 104, 3) := by decide +kernel
theorem d_OO_order_82 : decode prog_1_method_6_code 82 = .ok (.bipush 12, 2) := by decide +kernel
theorem d_OO_order_84 : decode prog_1_method_6_code 84 = .ok (.if_icmp .le 10, 3) := by decide +kernel
theorem d_OO_order_87 : decode prog_1_method_6_code 87 = .ok (.aload_n 0, 1) := by decide +kernel
theorem d_OO_order_88 : decode prog_1_method_6_code 88 = .ok (.bipush (-6), 2) := by decide +kernel
theorem d_OO_order_90 : decode prog_1_method_6_code 90 = .ok (.invokevirtual 73, 3) := by decide +kernel
theorem d_OO_order_93 : decode prog_1_method_6_code 93 = .ok (.ireturn, 1) := by decide +kernel
theorem d_OO_order_94 : decode prog_1_method_6_code 94 = .ok (.aload_n 0, 1) := by decide +kernel
theorem d_OO_order_95 : decode prog_1_method_6_code 95 = .ok (.iload_n 1, 1) := by decide +kernel
theorem d_OO_order_96 : decode prog_1_method_6_code 96 = .ok (.invokevirtual 107, 3) := by decide +kernel
theorem d_OO_order_99 : decode prog_1_method_6_code 99 = .ok (.aload_n 0, 1) := by decide +kernel
theorem d_OO_order_100 : decode prog_1_method_6_code 100 = .ok (.invokevirtual 111, 3) := by decide +kernel
theorem d_OO_order_103 : decode prog_1_method_6_code 103 = .ok (.aload_n 0, 1) := by decide +kernel
theorem d_OO_order_104 : decode prog_1_method_6_code 104 = .ok (.invokevirtual 114, 3) := by decide +kernel
theorem d_OO_order_107 : decode prog_1_method_6_code 107 = .ok (.getfield 118, 3) := by decide +kernel
theorem d_OO_order_110 : decode prog_1_method_6_code 110 = .ok (.ireturn, 1) := by decide +kernel
def OO_order_10 (h0 : Nat) (I : jM) (K : Int32 → jM → Prop) : Prop :=
  OO_refuse h0 (-2 : Int32) I (fun r_1 I_2 => K r_1 I_2)
set_option maxRecDepth 100000 in
set_option maxHeartbeats 4000000 in
theorem k_OO_order_10 {Z : jZ} {E : jE} (C : jC Z E prog_1_method_6_code 4 "OutOrder" 6 138) (hr : (jZh Z).sig.returnType = (some .int)) (hE : E.2.2.2 = jLX)  (h0 : Nat) (I : jM) (g_h0 : jOB E 10 h0) {K : Int32 → jM → Prop} (h : OO_order_10 h0 I K) : jJ Z E 4 (jQi Z E K) 10 [(0, .ref (E.2.2.1 h0))] [] I := by
  unfold OO_order_10 at h
  refine j_aload_n C d_OO_order_10 rfl 0 rfl ?_
  refine j_bipush C d_OO_order_11 ib_m2 ?_
  refine j_callVi (As := [.int (-2 : Int32)]) C jcl_OO cw_OO_73 w_352 ws_3 g_h0 rfl rfl (by decide) (by decide) (Nat.le_of_ble_eq_true rfl) d_OO_order_13 (s_OO_refuse C.ok hE g_h0 h) (fun r_1 I_2 h => ?_)
  exact j_iret C hr d_OO_order_16 h
def OO_order_94 (h0 : Nat) (v1 : Int32) (I : jM) (K : Int32 → jM → Prop) : Prop :=
  OO_arrange h0 v1 I (fun I_2 => OO_orderChanged h0 I_2 (fun I_4 => OO_fullNet h0 I_4 (fun r_5 I_6 => (r_5 ∈ jLX ∧ jk r_5 = 0 ∧ K (I_6 r_5 7) I_6))))
set_option maxRecDepth 100000 in
set_option maxHeartbeats 4000000 in
theorem k_OO_order_94 {Z : jZ} {E : jE} (C : jC Z E prog_1_method_6_code 4 "OutOrder" 6 138) (hr : (jZh Z).sig.returnType = (some .int)) (hE : E.2.2.2 = jLX)  (h0 : Nat) (v1 : Int32) (I : jM) (g_h0 : jOB E 10 h0) {K : Int32 → jM → Prop} (h : OO_order_94 h0 v1 I K) : jJ Z E 4 (jQi Z E K) 94 [(0, .ref (E.2.2.1 h0)), (1, .int v1)] [] I := by
  unfold OO_order_94 at h
  refine j_aload_n C d_OO_order_94 rfl 0 rfl ?_
  refine j_iload_n C d_OO_order_95 rfl 1 rfl ?_
  refine j_callVv (As := [.int v1]) C jcl_OO cw_OO_107 w_394 ws_5 g_h0 rfl rfl (by decide) (by decide) (Nat.le_of_ble_eq_true rfl) d_OO_order_96 (s_OO_arrange C.ok hE g_h0 h) (fun I_2 h => ?_)
  refine j_aload_n C d_OO_order_99 rfl 0 rfl ?_
  refine j_callVv (As := []) C jcl_OO cw_OO_111 w_306 ws_2 g_h0 rfl rfl (by decide) (by decide) (Nat.le_of_ble_eq_true rfl) d_OO_order_100 (s_OO_orderChanged C.ok hE g_h0 h) (fun I_4 h => ?_)
  refine j_aload_n C d_OO_order_103 rfl 0 rfl ?_
  refine j_callVr (As := []) C jcl_OO cw_OO_114 w_491 ws_13 g_h0 rfl rfl (by decide) (by decide) (Nat.le_of_ble_eq_true rfl) d_OO_order_104 (s_OO_fullNet C.ok hE g_h0 h) (fun r_5 I_6 h => ?_)
  obtain ⟨q_7, q_8, h⟩ := h
  refine fg_OO_118 C (⟨hE ▸ q_7, q_8⟩ : jOB E 0 r_5) d_OO_order_107 ?_
  exact j_iret C hr d_OO_order_110 h
def OO_order_70 (h0 : Nat) (v1 : Int32) (s0 : Int32) (I : jM) (K : Int32 → jM → Prop) : Prop :=
  ((s0 = 0 → OO_order_94 h0 v1 I K) ∧ (¬ s0 = 0 → (((I (jr h0 0) 4) ≤ (12 : Int32) → OO_order_94 h0 v1 I K) ∧ (¬ (I (jr h0 0) 4) ≤ (12 : Int32) → OO_refuse h0 (-6 : Int32) I (fun r_1 I_2 => K r_1 I_2)))))
set_option maxRecDepth 100000 in
set_option maxHeartbeats 4000000 in
theorem k_OO_order_70 {Z : jZ} {E : jE} (C : jC Z E prog_1_method_6_code 4 "OutOrder" 6 138) (hr : (jZh Z).sig.returnType = (some .int)) (hE : E.2.2.2 = jLX)  (h0 : Nat) (v1 : Int32) (s0 : Int32) (I : jM) (g_h0 : jOB E 10 h0) {K : Int32 → jM → Prop} (h : OO_order_70 h0 v1 s0 I K) : jJ Z E 4 (jQi Z E K) 70 [(0, .ref (E.2.2.1 h0)), (1, .int v1)] [.int s0] I := by
  unfold OO_order_70 at h
  refine j_istore_n C d_OO_order_70 rfl (by decide) (lv' := [(3, .int s0), (0, .ref (E.2.2.1 h0)), (1, .int v1)]) rfl ?_
  refine j_iload_n C d_OO_order_71 rfl 0 rfl ?_
  refine j_if_eq C d_OO_order_72 (tgt := 94) (by decide) (fun c72 => ?_) (fun c72 => ?_)
  · have h := h.1 c72
    refine j_lv [1, 2] rfl ?_
    exact k_OO_order_94 C hr hE h0 v1 I g_h0 h
  · have h := h.2 c72
    refine j_aload_n C d_OO_order_75 rfl 1 rfl ?_
    refine fg_OO_12 C g_h0 d_OO_order_76 ?_
    refine fg_OO_104 C (sh_OO_0 hE g_h0) d_OO_order_79 ?_
    refine j_bipush C d_OO_order_82 ib_12 ?_
    refine j_icmp_le C d_OO_order_84 (tgt := 94) (by decide) (fun c84 => ?_) (fun c84 => ?_)
    · have h := h.1 c84
      refine j_lv [1, 2] rfl ?_
      exact k_OO_order_94 C hr hE h0 v1 I g_h0 h
    · have h := h.2 c84
      refine j_aload_n C d_OO_order_87 rfl 1 rfl ?_
      refine j_bipush C d_OO_order_88 ib_m6 ?_
      refine j_callVi (As := [.int (-6 : Int32)]) C jcl_OO cw_OO_73 w_352 ws_3 g_h0 rfl rfl (by decide) (by decide) (Nat.le_of_ble_eq_true rfl) d_OO_order_90 (s_OO_refuse C.ok hE g_h0 h) (fun r_1 I_2 h => ?_)
      exact j_iret C hr d_OO_order_93 h
def OO_order_55 (h0 : Nat) (v1 : Int32) (I : jM) (K : Int32 → jM → Prop) : Prop :=
  ((v1 = (4 : Int32) → OO_order_70 h0 v1 (1 : Int32) I K) ∧ (¬ v1 = (4 : Int32) → ((¬ v1 = (5 : Int32) → OO_order_70 h0 v1 (0 : Int32) I K) ∧ (v1 = (5 : Int32) → OO_order_70 h0 v1 (1 : Int32) I K))))
set_option maxRecDepth 100000 in
set_option maxHeartbeats 4000000 in
theorem k_OO_order_55 {Z : jZ} {E : jE} (C : jC Z E prog_1_method_6_code 4 "OutOrder" 6 138) (hr : (jZh Z).sig.returnType = (some .int)) (hE : E.2.2.2 = jLX)  (h0 : Nat) (v1 : Int32) (I : jM) (g_h0 : jOB E 10 h0) {K : Int32 → jM → Prop} (h : OO_order_55 h0 v1 I K) : jJ Z E 4 (jQi Z E K) 55 [(0, .ref (E.2.2.1 h0)), (1, .int v1)] [] I := by
  unfold OO_order_55 at h
  refine j_iload_n C d_OO_order_55 rfl 1 rfl ?_
  refine j_iconst C d_OO_order_56 ic_4 ?_
  refine j_icmp_eq C d_OO_order_57 (tgt := 65) (by decide) (fun c57 => ?_) (fun c57 => ?_)
  · have h := h.1 c57
    refine j_iconst C d_OO_order_65 ic_1 ?_
    refine j_goto C d_OO_order_66 (tgt := 70) (by decide) ?_
    refine j_lv [0, 1] rfl ?_
    exact k_OO_order_70 C hr hE h0 v1 (1 : Int32) I g_h0 h
  · have h := h.2 c57
    refine j_iload_n C d_OO_order_60 rfl 1 rfl ?_
    refine j_iconst C d_OO_order_61 ic_5 ?_
    refine j_icmp_ne C d_OO_order_62 (tgt := 69) (by decide) (fun c62 => ?_) (fun c62 => ?_)
    · have h := h.1 c62
      refine j_iconst C d_OO_order_69 ic_0 ?_
      refine j_lv [0, 1] rfl ?_
      exact k_OO_order_70 C hr hE h0 v1 (0 : Int32) I g_h0 h
    · have h := h.2 c62
      refine j_iconst C d_OO_order_65 ic_1 ?_
      refine j_goto C d_OO_order_66 (tgt := 70) (by decide) ?_
      refine j_lv [0, 1] rfl ?_
      exact k_OO_order_70 C hr hE h0 v1 (1 : Int32) I g_h0 h
def OO_order_33 (h0 : Nat) (v1 : Int32) (s0 : Int32) (I : jM) (K : Int32 → jM → Prop) : Prop :=
  ((¬ s0 = 0 → OO_order_55 h0 v1 I K) ∧ (s0 = 0 → (((I (jr h0 0) 5) = 0 → OO_order_55 h0 v1 I K) ∧ (¬ (I (jr h0 0) 5) = 0 → OO_refuse h0 (-5 : Int32) I (fun r_1 I_2 => K r_1 I_2)))))
set_option maxRecDepth 100000 in
set_option maxHeartbeats 4000000 in
theorem k_OO_order_33 {Z : jZ} {E : jE} (C : jC Z E prog_1_method_6_code 4 "OutOrder" 6 138) (hr : (jZh Z).sig.returnType = (some .int)) (hE : E.2.2.2 = jLX)  (h0 : Nat) (v1 : Int32) (s0 : Int32) (I : jM) (g_h0 : jOB E 10 h0) {K : Int32 → jM → Prop} (h : OO_order_33 h0 v1 s0 I K) : jJ Z E 4 (jQi Z E K) 33 [(0, .ref (E.2.2.1 h0)), (1, .int v1)] [.int s0] I := by
  unfold OO_order_33 at h
  refine j_istore_n C d_OO_order_33 rfl (by decide) (lv' := [(2, .int s0), (0, .ref (E.2.2.1 h0)), (1, .int v1)]) rfl ?_
  refine j_iload_n C d_OO_order_34 rfl 0 rfl ?_
  refine j_if_ne C d_OO_order_35 (tgt := 55) (by decide) (fun c35 => ?_) (fun c35 => ?_)
  · have h := h.1 c35
    refine j_lv [1, 2] rfl ?_
    exact k_OO_order_55 C hr hE h0 v1 I g_h0 h
  · have h := h.2 c35
    refine j_aload_n C d_OO_order_38 rfl 1 rfl ?_
    refine fg_OO_12 C g_h0 d_OO_order_39 ?_
    refine fg_OO_100 C (sh_OO_0 hE g_h0) d_OO_order_42 ?_
    refine j_if_eq C d_OO_order_45 (tgt := 55) (by decide) (fun c45 => ?_) (fun c45 => ?_)
    · have h := h.1 c45
      refine j_lv [1, 2] rfl ?_
      exact k_OO_order_55 C hr hE h0 v1 I g_h0 h
    · have h := h.2 c45
      refine j_aload_n C d_OO_order_48 rfl 1 rfl ?_
      refine j_bipush C d_OO_order_49 ib_m5 ?_
      refine j_callVi (As := [.int (-5 : Int32)]) C jcl_OO cw_OO_73 w_352 ws_3 g_h0 rfl rfl (by decide) (by decide) (Nat.le_of_ble_eq_true rfl) d_OO_order_51 (s_OO_refuse C.ok hE g_h0 h) (fun r_1 I_2 h => ?_)
      exact j_iret C hr d_OO_order_54 h
/-- OutOrder.order(I)I -/
def OO_order (h0 : Nat) (v1 : Int32) (I : jM) (K : Int32 → jM → Prop) : Prop :=
  ((v1 < 0 → OO_order_10 h0 I K) ∧ (¬ v1 < 0 → ((v1 ≤ (6 : Int32) → ((v1 < (3 : Int32) → OO_order_33 h0 v1 (1 : Int32) I K) ∧ (¬ v1 < (3 : Int32) → ((¬ v1 = (6 : Int32) → OO_order_33 h0 v1 (0 : Int32) I K) ∧ (v1 = (6 : Int32) → OO_order_33 h0 v1 (1 : Int32) I K))))) ∧ (¬ v1 ≤ (6 : Int32) → OO_order_10 h0 I K))))
set_option maxRecDepth 100000 in
set_option maxHeartbeats 4000000 in
theorem s_OO_order {l : Launch} {E : jE} (ok : jOK E) (hE : E.2.2.2 = jLX) {h0 : Nat} {v1 : Int32} (g_h0 : jOB E 10 h0) {I : jM} {K : Int32 → jM → Prop} (h : OO_order h0 v1 I K) : jSi l E ⟨"OutOrder", "order", "(I)I"⟩ prog_1_method_6_code 4 (some .int) 6 138 [.ref (E.2.2.1 h0), .int v1] I K := by
  refine jS_ofF (own := "OutOrder") (by decide +kernel) rfl ok (Nat.le_of_ble_eq_true rfl) (fun Z _ C hr => ?_)
  show jJ Z E 4 (jQi Z E K) 0 [(0, .ref (E.2.2.1 h0)), (1, .int v1)] [] I
  unfold OO_order at h
  refine j_iload_n C d_OO_order_0 rfl 1 rfl ?_
  refine j_if_lt C d_OO_order_1 (tgt := 10) (by decide) (fun c1 => ?_) (fun c1 => ?_)
  · have h := h.1 c1
    refine j_lv [0] rfl ?_
    exact k_OO_order_10 C hr hE h0 I g_h0 h
  · have h := h.2 c1
    refine j_iload_n C d_OO_order_4 rfl 1 rfl ?_
    refine j_bipush C d_OO_order_5 ib_6 ?_
    refine j_icmp_le C d_OO_order_7 (tgt := 17) (by decide) (fun c7 => ?_) (fun c7 => ?_)
    · have h := h.1 c7
      refine j_iload_n C d_OO_order_17 rfl 1 rfl ?_
      refine j_iconst C d_OO_order_18 ic_3 ?_
      refine j_icmp_lt C d_OO_order_19 (tgt := 28) (by decide) (fun c19 => ?_) (fun c19 => ?_)
      · have h := h.1 c19
        refine j_iconst C d_OO_order_28 ic_1 ?_
        refine j_goto C d_OO_order_29 (tgt := 33) (by decide) ?_
        refine j_lv [0, 1] rfl ?_
        exact k_OO_order_33 C hr hE h0 v1 (1 : Int32) I g_h0 h
      · have h := h.2 c19
        refine j_iload_n C d_OO_order_22 rfl 1 rfl ?_
        refine j_bipush C d_OO_order_23 ib_6 ?_
        refine j_icmp_ne C d_OO_order_25 (tgt := 32) (by decide) (fun c25 => ?_) (fun c25 => ?_)
        · have h := h.1 c25
          refine j_iconst C d_OO_order_32 ic_0 ?_
          refine j_lv [0, 1] rfl ?_
          exact k_OO_order_33 C hr hE h0 v1 (0 : Int32) I g_h0 h
        · have h := h.2 c25
          refine j_iconst C d_OO_order_28 ic_1 ?_
          refine j_goto C d_OO_order_29 (tgt := 33) (by decide) ?_
          refine j_lv [0, 1] rfl ?_
          exact k_OO_order_33 C hr hE h0 v1 (1 : Int32) I g_h0 h
    · have h := h.2 c7
      refine j_lv [0] rfl ?_
      exact k_OO_order_10 C hr hE h0 I g_h0 h
theorem d_OO_out_0 : decode prog_1_method_18_code 0 = .ok (.aload_n 0, 1) := by decide +kernel
theorem d_OO_out_1 : decode prog_1_method_18_code 1 = .ok (.iload_n 1, 1) := by decide +kernel
theorem d_OO_out_2 : decode prog_1_method_18_code 2 = .ok (.invokevirtual 83, 3) := by decide +kernel
theorem d_OO_out_5 : decode prog_1_method_18_code 5 = .ok (.ifCond .eq 9, 3) := by decide +kernel
theorem d_OO_out_8 : decode prog_1_method_18_code 8 = .ok (.aload_n 0, 1) := by decide +kernel
theorem d_OO_out_9 : decode prog_1_method_18_code 9 = .ok (.iconst (-1), 1) := by decide +kernel
theorem d_OO_out_10 : decode prog_1_method_18_code 10 = .ok (.invokevirtual 73, 3) := by decide +kernel
theorem d_OO_out_13 : decode prog_1_method_18_code 13 = .ok (.ireturn, 1) := by decide +kernel
theorem d_OO_out_14 : decode prog_1_method_18_code 14 = .ok (.aload_n 0, 1) := by decide +kernel
theorem d_OO_out_15 : decode prog_1_method_18_code 15 = .ok (.getfield 47, 3) := by decide +kernel
theorem d_OO_out_18 : decode prog_1_method_18_code 18 = .ok (.getfield 185, 3) := by decide +kernel
theorem d_OO_out_21 : decode prog_1_method_18_code 21 = .ok (.iload_n 1, 1) := by decide +kernel
theorem d_OO_out_22 : decode prog_1_method_18_code 22 = .ok (.invokevirtual 189, 3) := by decide +kernel
theorem d_OO_out_25 : decode prog_1_method_18_code 25 = .ok (.ifCond .ne 10, 3) := by decide +kernel
theorem d_OO_out_28 : decode prog_1_method_18_code 28 = .ok (.aload_n 0, 1) := by decide +kernel
theorem d_OO_out_29 : decode prog_1_method_18_code 29 = .ok (.bipush (-3), 2) := by decide +kernel
theorem d_OO_out_31 : decode prog_1_method_18_code 31 = .ok (.invokevirtual 73, 3) := by decide +kernel
theorem d_OO_out_34 : decode prog_1_method_18_code 34 = .ok (.ireturn, 1) := by decide +kernel
theorem d_OO_out_35 : decode prog_1_method_18_code 35 = .ok (.aload_n 0, 1) := by decide +kernel
theorem d_OO_out_36 : decode prog_1_method_18_code 36 = .ok (.getfield 47, 3) := by decide +kernel
theorem d_OO_out_39 : decode prog_1_method_18_code 39 = .ok (.getfield 185, 3) := by decide +kernel
theorem d_OO_out_42 : decode prog_1_method_18_code 42 = .ok (.iload_n 1, 1) := by decide +kernel
theorem d_OO_out_43 : decode prog_1_method_18_code 43 = .ok (.invokevirtual 194, 3) := by decide +kernel
theorem d_OO_out_46 : decode prog_1_method_18_code 46 = .ok (.istore_n 2, 1) := by decide +kernel
theorem d_OO_out_47 : decode prog_1_method_18_code 47 = .ok (.aload_n 0, 1) := by decide +kernel
theorem d_OO_out_48 : decode prog_1_method_18_code 48 = .ok (.getfield 47, 3) := by decide +kernel
theorem d_OO_out_51 : decode prog_1_method_18_code 51 = .ok (.iload_n 1, 1) := by decide +kernel
theorem d_OO_out_52 : decode prog_1_method_18_code 52 = .ok (.invokevirtual 197, 3) := by decide +kernel
theorem d_OO_out_55 : decode prog_1_method_18_code 55 = .ok (.iload_n 2, 1) := by decide +kernel
theorem d_OO_out_56 : decode prog_1_method_18_code 56 = .ok (.ireturn, 1) := by decide +kernel
/-- OutOrder.out(I)I -/
def OO_out (h0 : Nat) (v1 : Int32) (I : jM) (K : Int32 → jM → Prop) : Prop :=
  OO_isNobody h0 v1 I (fun r_1 => ((r_1 = 0 → NE_has (jr (jr h0 5) 0) v1 I (fun r_2 => ((¬ r_2 = 0 → NE_missing (jr (jr h0 5) 0) v1 I (fun r_3 => GO_sendOut (jr h0 5) v1 I (fun I_5 => K r_3 I_5))) ∧ (r_2 = 0 → OO_refuse h0 (-3 : Int32) I (fun r_6 I_7 => K r_6 I_7))))) ∧ (¬ r_1 = 0 → OO_refuse h0 (-1 : Int32) I (fun r_8 I_9 => K r_8 I_9))))
set_option maxRecDepth 100000 in
set_option maxHeartbeats 4000000 in
theorem s_OO_out {l : Launch} {E : jE} (ok : jOK E) (hE : E.2.2.2 = jLX) {h0 : Nat} {v1 : Int32} (g_h0 : jOB E 10 h0) {I : jM} {K : Int32 → jM → Prop} (h : OO_out h0 v1 I K) : jSi l E ⟨"OutOrder", "out", "(I)I"⟩ prog_1_method_18_code 3 (some .int) 3 68 [.ref (E.2.2.1 h0), .int v1] I K := by
  refine jS_ofF (own := "OutOrder") (by decide +kernel) rfl ok (Nat.le_of_ble_eq_true rfl) (fun Z _ C hr => ?_)
  show jJ Z E 3 (jQi Z E K) 0 [(0, .ref (E.2.2.1 h0)), (1, .int v1)] [] I
  unfold OO_out at h
  refine j_aload_n C d_OO_out_0 rfl 0 rfl ?_
  refine j_iload_n C d_OO_out_1 rfl 1 rfl ?_
  refine j_callVi (As := [.int v1]) C jcl_OO cw_OO_83 w_363 ws_4 g_h0 rfl rfl (by decide) (by decide) (Nat.le_of_ble_eq_true rfl) d_OO_out_2 (s_OO_isNobody C.ok hE g_h0 h) (fun r_1 I2 h => ?_)
  obtain ⟨rfl, h⟩ := h
  refine j_if_eq C d_OO_out_5 (tgt := 14) (by decide) (fun c5 => ?_) (fun c5 => ?_)
  · have h := h.1 c5
    refine j_aload_n C d_OO_out_14 rfl 0 rfl ?_
    refine fg_OO_47 C g_h0 d_OO_out_15 ?_
    refine fg_OO_185 C (sh_OO_5 hE g_h0) d_OO_out_18 ?_
    refine j_iload_n C d_OO_out_21 rfl 1 rfl ?_
    refine j_callVi (As := [.int v1]) C jcl_NE cw_OO_189 w_457 w_458 (sh_GO_0 hE (sh_OO_5 hE g_h0)) rfl rfl (by decide) (by decide) (Nat.le_of_ble_eq_true rfl) d_OO_out_22 (s_NE_has C.ok (sh_GO_0 hE (sh_OO_5 hE g_h0)) h) (fun r_2 I2 h => ?_)
    obtain ⟨rfl, h⟩ := h
    refine j_if_ne C d_OO_out_25 (tgt := 35) (by decide) (fun c25 => ?_) (fun c25 => ?_)
    · have h := h.1 c25
      refine j_aload_n C d_OO_out_35 rfl 0 rfl ?_
      refine fg_OO_47 C g_h0 d_OO_out_36 ?_
      refine fg_OO_185 C (sh_OO_5 hE g_h0) d_OO_out_39 ?_
      refine j_iload_n C d_OO_out_42 rfl 1 rfl ?_
      refine j_callVi (As := [.int v1]) C jcl_NE cw_OO_194 w_484 w_485 (sh_GO_0 hE (sh_OO_5 hE g_h0)) rfl rfl (by decide) (by decide) (Nat.le_of_ble_eq_true rfl) d_OO_out_43 (s_NE_missing C.ok hE (sh_GO_0 hE (sh_OO_5 hE g_h0)) h) (fun r_3 I2 h => ?_)
      obtain ⟨rfl, h⟩ := h
      refine j_istore_n C d_OO_out_46 rfl (by decide) (lv' := [(2, .int r_3), (0, .ref (E.2.2.1 h0)), (1, .int v1)]) rfl ?_
      refine j_aload_n C d_OO_out_47 rfl 1 rfl ?_
      refine fg_OO_47 C g_h0 d_OO_out_48 ?_
      refine j_iload_n C d_OO_out_51 rfl 2 rfl ?_
      refine j_callVv (As := [.int v1]) C jcl_GO cw_OO_197 w_591 w_592 (sh_OO_5 hE g_h0) rfl rfl (by decide) (by decide) (Nat.le_of_ble_eq_true rfl) d_OO_out_52 (s_GO_sendOut C.ok hE (sh_OO_5 hE g_h0) h) (fun I_5 h => ?_)
      refine j_iload_n C d_OO_out_55 rfl 0 rfl ?_
      exact j_iret C hr d_OO_out_56 h
    · have h := h.2 c25
      refine j_aload_n C d_OO_out_28 rfl 0 rfl ?_
      refine j_bipush C d_OO_out_29 ib_m3 ?_
      refine j_callVi (As := [.int (-3 : Int32)]) C jcl_OO cw_OO_73 w_352 ws_3 g_h0 rfl rfl (by decide) (by decide) (Nat.le_of_ble_eq_true rfl) d_OO_out_31 (s_OO_refuse C.ok hE g_h0 h) (fun r_6 I_7 h => ?_)
      exact j_iret C hr d_OO_out_34 h
  · have h := h.2 c5
    refine j_aload_n C d_OO_out_8 rfl 0 rfl ?_
    refine j_iconst C d_OO_out_9 ic_m1 ?_
    refine j_callVi (As := [.int (-1 : Int32)]) C jcl_OO cw_OO_73 w_352 ws_3 g_h0 rfl rfl (by decide) (by decide) (Nat.le_of_ble_eq_true rfl) d_OO_out_10 (s_OO_refuse C.ok hE g_h0 h) (fun r_8 I_9 h => ?_)
    exact j_iret C hr d_OO_out_13 h
theorem d_OO_pivot_0 : decode prog_1_method_22_code 0 = .ok (.aload_n 0, 1) := by decide +kernel
theorem d_OO_pivot_1 : decode prog_1_method_22_code 1 = .ok (.iload_n 1, 1) := by decide +kernel
theorem d_OO_pivot_2 : decode prog_1_method_22_code 2 = .ok (.invokevirtual 83, 3) := by decide +kernel
theorem d_OO_pivot_5 : decode prog_1_method_22_code 5 = .ok (.ifCond .eq 9, 3) := by decide +kernel
theorem d_OO_pivot_8 : decode prog_1_method_22_code 8 = .ok (.aload_n 0, 1) := by decide +kernel
theorem d_OO_pivot_9 : decode prog_1_method_22_code 9 = .ok (.iconst (-1), 1) := by decide +kernel
theorem d_OO_pivot_10 : decode prog_1_method_22_code 10 = .ok (.invokevirtual 73, 3) := by decide +kernel
theorem d_OO_pivot_13 : decode prog_1_method_22_code 13 = .ok (.ireturn, 1) := by decide +kernel
theorem d_OO_pivot_14 : decode prog_1_method_22_code 14 = .ok (.aload_n 0, 1) := by decide +kernel
theorem d_OO_pivot_15 : decode prog_1_method_22_code 15 = .ok (.getfield 19, 3) := by decide +kernel
theorem d_OO_pivot_18 : decode prog_1_method_22_code 18 = .ok (.getfield 130, 3) := by decide +kernel
theorem d_OO_pivot_21 : decode prog_1_method_22_code 21 = .ok (.iload_n 1, 1) := by decide +kernel
theorem d_OO_pivot_22 : decode prog_1_method_22_code 22 = .ok (.iaload, 1) := by decide +kernel
theorem d_OO_pivot_23 : decode prog_1_method_22_code 23 = .ok (.istore_n 2, 1) := by decide +kernel
theorem d_OO_pivot_24 : decode prog_1_method_22_code 24 = .ok (.iload_n 2, 1) := by decide +kernel
theorem d_OO_pivot_25 : decode prog_1_method_22_code 25 = .ok (.aload_n 0, 1) := by decide +kernel
theorem d_OO_pivot_26 : decode prog_1_method_22_code 26 = .ok (.getfield 54, 3) := by decide +kernel
theorem d_OO_pivot_29 : decode prog_1_method_22_code 29 = .ok (.getfield 218, 3) := by decide +kernel
theorem d_OO_pivot_32 : decode prog_1_method_22_code 32 = .ok (.if_icmp .ne 5, 3) := by decide +kernel
theorem d_OO_pivot_35 : decode prog_1_method_22_code 35 = .ok (.iconst 0, 1) := by decide +kernel
theorem d_OO_pivot_36 : decode prog_1_method_22_code 36 = .ok (.ireturn, 1) := by decide +kernel
theorem d_OO_pivot_37 : decode prog_1_method_22_code 37 = .ok (.iload_n 2, 1) := by decide +kernel
theorem d_OO_pivot_38 : decode prog_1_method_22_code 38 = .ok (.aload_n 0, 1) := by decide +kernel
theorem d_OO_pivot_39 : decode prog_1_method_22_code 39 = .ok (.getfield 54, 3) := by decide +kernel
theorem d_OO_pivot_42 : decode prog_1_method_22_code 42 = .ok (.getfield 215, 3) := by decide +kernel
theorem d_OO_pivot_45 : decode prog_1_method_22_code 45 = .ok (.if_icmp .ge 15, 3) := by decide +kernel
theorem d_OO_pivot_48 : decode prog_1_method_22_code 48 = .ok (.aload_n 0, 1) := by decide +kernel
theorem d_OO_pivot_49 : decode prog_1_method_22_code 49 = .ok (.getfield 54, 3) := by decide +kernel
theorem d_OO_pivot_52 : decode prog_1_method_22_code 52 = .ok (.getfield 221, 3) := by decide +kernel
theorem d_OO_pivot_55 : decode prog_1_method_22_code 55 = .ok (.iload_n 2, 1) := by decide +kernel
theorem d_OO_pivot_56 : decode prog_1_method_22_code 56 = .ok (.iaload, 1) := by decide +kernel
theorem d_OO_pivot_57 : decode prog_1_method_22_code 57 = .ok (.goto 9, 3) := by decide +kernel
theorem d_OO_pivot_60 : decode prog_1_method_22_code 60 = .ok (.aload_n 0, 1) := by decide +kernel
theorem d_OO_pivot_61 : decode prog_1_method_22_code 61 = .ok (.bipush (-5), 2) := by decide +kernel
theorem d_OO_pivot_63 : decode prog_1_method_22_code 63 = .ok (.invokevirtual 73, 3) := by decide +kernel
theorem d_OO_pivot_66 : decode prog_1_method_22_code 66 = .ok (.ireturn, 1) := by decide +kernel
/-- OutOrder.pivot(I)I -/
def OO_pivot (h0 : Nat) (v1 : Int32) (I : jM) (K : Int32 → jM → Prop) : Prop :=
  OO_isNobody h0 v1 I (fun r_1 => ((r_1 = 0 → (vp_in v1 24 ∧ (∀ v2_2 : Int32, v2_2 = (I (jr (jr h0 1) 1) v1.toNatClampNeg) → ((¬ v2_2 = (I (jr h0 6) 5) → (((I (jr h0 6) 4) ≤ v2_2 → OO_refuse h0 (-5 : Int32) I (fun r_3 I_4 => K r_3 I_4)) ∧ (¬ (I (jr h0 6) 4) ≤ v2_2 → (vp_in v2_2 24 ∧ K (I (jr (jr h0 6) 1) v2_2.toNatClampNeg) I)))) ∧ (v2_2 = (I (jr h0 6) 5) → K (0 : Int32) I))))) ∧ (¬ r_1 = 0 → OO_refuse h0 (-1 : Int32) I (fun r_5 I_6 => K r_5 I_6))))
set_option maxRecDepth 100000 in
set_option maxHeartbeats 4000000 in
theorem s_OO_pivot {l : Launch} {E : jE} (ok : jOK E) (hE : E.2.2.2 = jLX) {h0 : Nat} {v1 : Int32} (g_h0 : jOB E 10 h0) {I : jM} {K : Int32 → jM → Prop} (h : OO_pivot h0 v1 I K) : jSi l E ⟨"OutOrder", "pivot", "(I)I"⟩ prog_1_method_22_code 3 (some .int) 1 22 [.ref (E.2.2.1 h0), .int v1] I K := by
  refine jS_ofF (own := "OutOrder") (by decide +kernel) rfl ok (Nat.le_of_ble_eq_true rfl) (fun Z _ C hr => ?_)
  show jJ Z E 3 (jQi Z E K) 0 [(0, .ref (E.2.2.1 h0)), (1, .int v1)] [] I
  unfold OO_pivot at h
  refine j_aload_n C d_OO_pivot_0 rfl 0 rfl ?_
  refine j_iload_n C d_OO_pivot_1 rfl 1 rfl ?_
  refine j_callVi (As := [.int v1]) C jcl_OO cw_OO_83 w_363 ws_4 g_h0 rfl rfl (by decide) (by decide) (Nat.le_of_ble_eq_true rfl) d_OO_pivot_2 (s_OO_isNobody C.ok hE g_h0 h) (fun r_1 I2 h => ?_)
  obtain ⟨rfl, h⟩ := h
  refine j_if_eq C d_OO_pivot_5 (tgt := 14) (by decide) (fun c5 => ?_) (fun c5 => ?_)
  · have h := h.1 c5
    refine j_aload_n C d_OO_pivot_14 rfl 0 rfl ?_
    refine fg_OO_19 C g_h0 d_OO_pivot_15 ?_
    refine fg_OO_130 C (sh_OO_1 hE g_h0) d_OO_pivot_18 ?_
    refine j_iload_n C d_OO_pivot_21 rfl 1 rfl ?_
    obtain ⟨hi, h⟩ := h
    refine j_iaload C (sh_RO_1 hE (sh_OO_1 hE g_h0)) hi d_OO_pivot_22 ?_
    refine j_topi (fun v2_2 ev2_2 => ?_)
    have h := h v2_2 ev2_2
    refine j_istore_n C d_OO_pivot_23 rfl (by decide) (lv' := [(2, .int v2_2), (0, .ref (E.2.2.1 h0)), (1, .int v1)]) rfl ?_
    refine j_iload_n C d_OO_pivot_24 rfl 0 rfl ?_
    refine j_aload_n C d_OO_pivot_25 rfl 1 rfl ?_
    refine fg_OO_54 C g_h0 d_OO_pivot_26 ?_
    refine fg_OO_218 C (sh_OO_6 hE g_h0) d_OO_pivot_29 ?_
    refine j_icmp_ne C d_OO_pivot_32 (tgt := 37) (by decide) (fun c32 => ?_) (fun c32 => ?_)
    · have h := h.1 c32
      refine j_iload_n C d_OO_pivot_37 rfl 0 rfl ?_
      refine j_aload_n C d_OO_pivot_38 rfl 1 rfl ?_
      refine fg_OO_54 C g_h0 d_OO_pivot_39 ?_
      refine fg_OO_215 C (sh_OO_6 hE g_h0) d_OO_pivot_42 ?_
      refine j_icmp_ge C d_OO_pivot_45 (tgt := 60) (by decide) (fun c45 => ?_) (fun c45 => ?_)
      · have h := h.1 c45
        refine j_aload_n C d_OO_pivot_60 rfl 1 rfl ?_
        refine j_bipush C d_OO_pivot_61 ib_m5 ?_
        refine j_callVi (As := [.int (-5 : Int32)]) C jcl_OO cw_OO_73 w_352 ws_3 g_h0 rfl rfl (by decide) (by decide) (Nat.le_of_ble_eq_true rfl) d_OO_pivot_63 (s_OO_refuse C.ok hE g_h0 h) (fun r_3 I_4 h => ?_)
        exact j_iret C hr d_OO_pivot_66 h
      · have h := h.2 c45
        refine j_aload_n C d_OO_pivot_48 rfl 1 rfl ?_
        refine fg_OO_54 C g_h0 d_OO_pivot_49 ?_
        refine fg_OO_221 C (sh_OO_6 hE g_h0) d_OO_pivot_52 ?_
        refine j_iload_n C d_OO_pivot_55 rfl 0 rfl ?_
        obtain ⟨hi, h⟩ := h
        refine j_iaload C (sh_WO_1 hE (sh_OO_6 hE g_h0)) hi d_OO_pivot_56 ?_
        refine j_goto C d_OO_pivot_57 (tgt := 66) (by decide) ?_
        exact j_iret C hr d_OO_pivot_66 h
    · have h := h.2 c32
      refine j_iconst C d_OO_pivot_35 ic_0 ?_
      exact j_iret C hr d_OO_pivot_36 h
  · have h := h.2 c5
    refine j_aload_n C d_OO_pivot_8 rfl 0 rfl ?_
    refine j_iconst C d_OO_pivot_9 ic_m1 ?_
    refine j_callVi (As := [.int (-1 : Int32)]) C jcl_OO cw_OO_73 w_352 ws_3 g_h0 rfl rfl (by decide) (by decide) (Nat.le_of_ble_eq_true rfl) d_OO_pivot_10 (s_OO_refuse C.ok hE g_h0 h) (fun r_5 I_6 h => ?_)
    exact j_iret C hr d_OO_pivot_13 h
theorem d_OO_plan_0 : decode prog_1_method_28_code 0 = .ok (.iload_n 1, 1) := by decide +kernel
theorem d_OO_plan_1 : decode prog_1_method_28_code 1 = .ok (.iconst 1, 1) := by decide +kernel
theorem d_OO_plan_2 : decode prog_1_method_28_code 2 = .ok (.if_icmp .ge 10, 3) := by decide +kernel
theorem d_OO_plan_5 : decode prog_1_method_28_code 5 = .ok (.aload_n 0, 1) := by decide +kernel
theorem d_OO_plan_6 : decode prog_1_method_28_code 6 = .ok (.bipush (-4), 2) := by decide +kernel
theorem d_OO_plan_8 : decode prog_1_method_28_code 8 = .ok (.invokevirtual 73, 3) := by decide +kernel
theorem d_OO_plan_11 : decode prog_1_method_28_code 11 = .ok (.ireturn, 1) := by decide +kernel
theorem d_OO_plan_12 : decode prog_1_method_28_code 12 = .ok (.iload_n 1, 1) := by decide +kernel
theorem d_OO_plan_13 : decode prog_1_method_28_code 13 = .ok (.bipush 24, 2) := by decide +kernel
theorem d_OO_plan_15 : decode prog_1_method_28_code 15 = .ok (.if_icmp .le 10, 3) := by decide +kernel
theorem d_OO_plan_18 : decode prog_1_method_28_code 18 = .ok (.aload_n 0, 1) := by decide +kernel
theorem d_OO_plan_19 : decode prog_1_method_28_code 19 = .ok (.bipush (-6), 2) := by decide +kernel
theorem d_OO_plan_21 : decode prog_1_method_28_code 21 = .ok (.invokevirtual 73, 3) := by decide +kernel
theorem d_OO_plan_24 : decode prog_1_method_28_code 24 = .ok (.ireturn, 1) := by decide +kernel
theorem d_OO_plan_25 : decode prog_1_method_28_code 25 = .ok (.aload_n 0, 1) := by decide +kernel
theorem d_OO_plan_26 : decode prog_1_method_28_code 26 = .ok (.getfield 61, 3) := by decide +kernel
theorem d_OO_plan_29 : decode prog_1_method_28_code 29 = .ok (.iload_n 1, 1) := by decide +kernel
theorem d_OO_plan_30 : decode prog_1_method_28_code 30 = .ok (.aload_n 0, 1) := by decide +kernel
theorem d_OO_plan_31 : decode prog_1_method_28_code 31 = .ok (.getfield 19, 3) := by decide +kernel
theorem d_OO_plan_34 : decode prog_1_method_28_code 34 = .ok (.aload_n 0, 1) := by decide +kernel
theorem d_OO_plan_35 : decode prog_1_method_28_code 35 = .ok (.invokevirtual 114, 3) := by decide +kernel
theorem d_OO_plan_38 : decode prog_1_method_28_code 38 = .ok (.invokevirtual 255, 3) := by decide +kernel
theorem d_OO_plan_41 : decode prog_1_method_28_code 41 = .ok (.ireturn, 1) := by decide +kernel
/-- OutOrder.plan(I)I -/
def OO_plan (h0 : Nat) (v1 : Int32) (I : jM) (K : Int32 → jM → Prop) : Prop :=
  (((1 : Int32) ≤ v1 → ((v1 ≤ (24 : Int32) → OO_fullNet h0 I (fun r_1 I_2 => (r_1 ∈ jLX ∧ jk r_1 = 0 ∧ PL_reckon (jr h0 7) v1 (jr h0 1) r_1 I_2 (fun r_5 I_6 => K r_5 I_6)))) ∧ (¬ v1 ≤ (24 : Int32) → OO_refuse h0 (-6 : Int32) I (fun r_7 I_8 => K r_7 I_8)))) ∧ (¬ (1 : Int32) ≤ v1 → OO_refuse h0 (-4 : Int32) I (fun r_9 I_10 => K r_9 I_10)))
set_option maxRecDepth 100000 in
set_option maxHeartbeats 4000000 in
theorem s_OO_plan {l : Launch} {E : jE} (ok : jOK E) (hE : E.2.2.2 = jLX) {h0 : Nat} {v1 : Int32} (g_h0 : jOB E 10 h0) {I : jM} {K : Int32 → jM → Prop} (h : OO_plan h0 v1 I K) : jSi l E ⟨"OutOrder", "plan", "(I)I"⟩ prog_1_method_28_code 2 (some .int) 4 91 [.ref (E.2.2.1 h0), .int v1] I K := by
  refine jS_ofF (own := "OutOrder") (by decide +kernel) rfl ok (Nat.le_of_ble_eq_true rfl) (fun Z _ C hr => ?_)
  show jJ Z E 2 (jQi Z E K) 0 [(0, .ref (E.2.2.1 h0)), (1, .int v1)] [] I
  unfold OO_plan at h
  refine j_iload_n C d_OO_plan_0 rfl 1 rfl ?_
  refine j_iconst C d_OO_plan_1 ic_1 ?_
  refine j_icmp_ge C d_OO_plan_2 (tgt := 12) (by decide) (fun c2 => ?_) (fun c2 => ?_)
  · have h := h.1 c2
    refine j_iload_n C d_OO_plan_12 rfl 1 rfl ?_
    refine j_bipush C d_OO_plan_13 ib_24 ?_
    refine j_icmp_le C d_OO_plan_15 (tgt := 25) (by decide) (fun c15 => ?_) (fun c15 => ?_)
    · have h := h.1 c15
      refine j_aload_n C d_OO_plan_25 rfl 0 rfl ?_
      refine fg_OO_61 C g_h0 d_OO_plan_26 ?_
      refine j_iload_n C d_OO_plan_29 rfl 1 rfl ?_
      refine j_aload_n C d_OO_plan_30 rfl 0 rfl ?_
      refine fg_OO_19 C g_h0 d_OO_plan_31 ?_
      refine j_aload_n C d_OO_plan_34 rfl 0 rfl ?_
      refine j_callVr (As := []) C jcl_OO cw_OO_114 w_491 ws_13 g_h0 rfl rfl (by decide) (by decide) (Nat.le_of_ble_eq_true rfl) d_OO_plan_35 (s_OO_fullNet C.ok hE g_h0 h) (fun r_1 I_2 h => ?_)
      obtain ⟨q_3, q_4, h⟩ := h
      refine j_callVi (As := [.int v1, .ref (E.2.2.1 (jr h0 1)), .ref (E.2.2.1 r_1)]) C jcl_PL cw_OO_255 w_702 w_703 (sh_OO_7 hE g_h0) rfl rfl (by decide) (by decide) (Nat.le_of_ble_eq_true rfl) d_OO_plan_38 (s_PL_reckon C.ok hE (sh_OO_7 hE g_h0) (sh_OO_1 hE g_h0) (⟨hE ▸ q_3, q_4⟩ : jOB E 0 r_1) h) (fun r_5 I_6 h => ?_)
      exact j_iret C hr d_OO_plan_41 h
    · have h := h.2 c15
      refine j_aload_n C d_OO_plan_18 rfl 0 rfl ?_
      refine j_bipush C d_OO_plan_19 ib_m6 ?_
      refine j_callVi (As := [.int (-6 : Int32)]) C jcl_OO cw_OO_73 w_352 ws_3 g_h0 rfl rfl (by decide) (by decide) (Nat.le_of_ble_eq_true rfl) d_OO_plan_21 (s_OO_refuse C.ok hE g_h0 h) (fun r_7 I_8 h => ?_)
      exact j_iret C hr d_OO_plan_24 h
  · have h := h.2 c2
    refine j_aload_n C d_OO_plan_5 rfl 0 rfl ?_
    refine j_bipush C d_OO_plan_6 ib_m4 ?_
    refine j_callVi (As := [.int (-4 : Int32)]) C jcl_OO cw_OO_73 w_352 ws_3 g_h0 rfl rfl (by decide) (by decide) (Nat.le_of_ble_eq_true rfl) d_OO_plan_8 (s_OO_refuse C.ok hE g_h0 h) (fun r_9 I_10 h => ?_)
    exact j_iret C hr d_OO_plan_11 h
theorem d_OO_put_0 : decode prog_1_method_3_code 0 = .ok (.aload_n 0, 1) := by decide +kernel
theorem d_OO_put_1 : decode prog_1_method_3_code 1 = .ok (.iload_n 1, 1) := by decide +kernel
theorem d_OO_put_2 : decode prog_1_method_3_code 2 = .ok (.invokevirtual 83, 3) := by decide +kernel
theorem d_OO_put_5 : decode prog_1_method_3_code 5 = .ok (.ifCond .ne 11, 3) := by decide +kernel
theorem d_OO_put_8 : decode prog_1_method_3_code 8 = .ok (.aload_n 0, 1) := by decide +kernel
theorem d_OO_put_9 : decode prog_1_method_3_code 9 = .ok (.iload_n 2, 1) := by decide +kernel
theorem d_OO_put_10 : decode prog_1_method_3_code 10 = .ok (.invokevirtual 83, 3) := by decide +kernel
theorem d_OO_put_13 : decode prog_1_method_3_code 13 = .ok (.ifCond .eq 9, 3) := by decide +kernel
theorem d_OO_put_16 : decode prog_1_method_3_code 16 = .ok (.aload_n 0, 1) := by decide +kernel
theorem d_OO_put_17 : decode prog_1_method_3_code 17 = .ok (.iconst (-1), 1) := by decide +kernel
theorem d_OO_put_18 : decode prog_1_method_3_code 18 = .ok (.invokevirtual 73, 3) := by decide +kernel
theorem d_OO_put_21 : decode prog_1_method_3_code 21 = .ok (.ireturn, 1) := by decide +kernel
theorem d_OO_put_22 : decode prog_1_method_3_code 22 = .ok (.aload_n 0, 1) := by decide +kernel
theorem d_OO_put_23 : decode prog_1_method_3_code 23 = .ok (.getfield 12, 3) := by decide +kernel
theorem d_OO_put_26 : decode prog_1_method_3_code 26 = .ok (.getfield 86, 3) := by decide +kernel
theorem d_OO_put_29 : decode prog_1_method_3_code 29 = .ok (.iload_n 1, 1) := by decide +kernel
theorem d_OO_put_30 : decode prog_1_method_3_code 30 = .ok (.aaload, 1) := by decide +kernel
theorem d_OO_put_31 : decode prog_1_method_3_code 31 = .ok (.iload_n 2, 1) := by decide +kernel
theorem d_OO_put_32 : decode prog_1_method_3_code 32 = .ok (.iaload, 1) := by decide +kernel
theorem d_OO_put_33 : decode prog_1_method_3_code 33 = .ok (.istore 4, 2) := by decide +kernel
theorem d_OO_put_35 : decode prog_1_method_3_code 35 = .ok (.aload_n 0, 1) := by decide +kernel
theorem d_OO_put_36 : decode prog_1_method_3_code 36 = .ok (.getfield 12, 3) := by decide +kernel
theorem d_OO_put_39 : decode prog_1_method_3_code 39 = .ok (.iload_n 1, 1) := by decide +kernel
theorem d_OO_put_40 : decode prog_1_method_3_code 40 = .ok (.iload_n 2, 1) := by decide +kernel
theorem d_OO_put_41 : decode prog_1_method_3_code 41 = .ok (.iload_n 3, 1) := by decide +kernel
theorem d_OO_put_42 : decode prog_1_method_3_code 42 = .ok (.invokevirtual 90, 3) := by decide +kernel
theorem d_OO_put_45 : decode prog_1_method_3_code 45 = .ok (.aload_n 0, 1) := by decide +kernel
theorem d_OO_put_46 : decode prog_1_method_3_code 46 = .ok (.invokevirtual 94, 3) := by decide +kernel
theorem d_OO_put_49 : decode prog_1_method_3_code 49 = .ok (.iload 4, 2) := by decide +kernel
theorem d_OO_put_51 : decode prog_1_method_3_code 51 = .ok (.ireturn, 1) := by decide +kernel
def OO_put_16 (h0 : Nat) (I : jM) (K : Int32 → jM → Prop) : Prop :=
  OO_refuse h0 (-1 : Int32) I (fun r_1 I_2 => K r_1 I_2)
set_option maxRecDepth 100000 in
set_option maxHeartbeats 4000000 in
theorem k_OO_put_16 {Z : jZ} {E : jE} (C : jC Z E prog_1_method_3_code 5 "OutOrder" 3 67) (hr : (jZh Z).sig.returnType = (some .int)) (hE : E.2.2.2 = jLX)  (h0 : Nat) (I : jM) (g_h0 : jOB E 10 h0) {K : Int32 → jM → Prop} (h : OO_put_16 h0 I K) : jJ Z E 5 (jQi Z E K) 16 [(0, .ref (E.2.2.1 h0))] [] I := by
  unfold OO_put_16 at h
  refine j_aload_n C d_OO_put_16 rfl 0 rfl ?_
  refine j_iconst C d_OO_put_17 ic_m1 ?_
  refine j_callVi (As := [.int (-1 : Int32)]) C jcl_OO cw_OO_73 w_352 ws_3 g_h0 rfl rfl (by decide) (by decide) (Nat.le_of_ble_eq_true rfl) d_OO_put_18 (s_OO_refuse C.ok hE g_h0 h) (fun r_1 I_2 h => ?_)
  exact j_iret C hr d_OO_put_21 h
/-- OutOrder.put(III)I -/
def OO_put (h0 : Nat) (v1 : Int32) (v2 : Int32) (v3 : Int32) (I : jM) (K : Int32 → jM → Prop) : Prop :=
  OO_isNobody h0 v1 I (fun r_1 => ((¬ r_1 = 0 → OO_put_16 h0 I K) ∧ (r_1 = 0 → OO_isNobody h0 v2 I (fun r_2 => ((r_2 = 0 → (vp_in v1 24 ∧ (vp_in v2 24 ∧ (∀ v4_4 : Int32, v4_4 = (I (jw (jr (jr h0 0) 1) v1.toNatClampNeg) v2.toNatClampNeg) → TA_set (jr h0 0) v1 v2 v3 I (fun I_6 => OO_numbersChanged h0 I_6 (fun I_8 => K v4_4 I_8)))))) ∧ (¬ r_2 = 0 → OO_put_16 h0 I K))))))
set_option maxRecDepth 100000 in
set_option maxHeartbeats 4000000 in
theorem s_OO_put {l : Launch} {E : jE} (ok : jOK E) (hE : E.2.2.2 = jLX) {h0 : Nat} {v1 : Int32} {v2 : Int32} {v3 : Int32} (g_h0 : jOB E 10 h0) {I : jM} {K : Int32 → jM → Prop} (h : OO_put h0 v1 v2 v3 I K) : jSi l E ⟨"OutOrder", "put", "(III)I"⟩ prog_1_method_3_code 5 (some .int) 3 67 [.ref (E.2.2.1 h0), .int v1, .int v2, .int v3] I K := by
  refine jS_ofF (own := "OutOrder") (by decide +kernel) rfl ok (Nat.le_of_ble_eq_true rfl) (fun Z _ C hr => ?_)
  show jJ Z E 5 (jQi Z E K) 0 [(0, .ref (E.2.2.1 h0)), (1, .int v1), (2, .int v2), (3, .int v3)] [] I
  unfold OO_put at h
  refine j_aload_n C d_OO_put_0 rfl 0 rfl ?_
  refine j_iload_n C d_OO_put_1 rfl 1 rfl ?_
  refine j_callVi (As := [.int v1]) C jcl_OO cw_OO_83 w_363 ws_4 g_h0 rfl rfl (by decide) (by decide) (Nat.le_of_ble_eq_true rfl) d_OO_put_2 (s_OO_isNobody C.ok hE g_h0 h) (fun r_1 I2 h => ?_)
  obtain ⟨rfl, h⟩ := h
  refine j_if_ne C d_OO_put_5 (tgt := 16) (by decide) (fun c5 => ?_) (fun c5 => ?_)
  · have h := h.1 c5
    refine j_lv [0] rfl ?_
    exact k_OO_put_16 C hr hE h0 I g_h0 h
  · have h := h.2 c5
    refine j_aload_n C d_OO_put_8 rfl 0 rfl ?_
    refine j_iload_n C d_OO_put_9 rfl 2 rfl ?_
    refine j_callVi (As := [.int v2]) C jcl_OO cw_OO_83 w_363 ws_4 g_h0 rfl rfl (by decide) (by decide) (Nat.le_of_ble_eq_true rfl) d_OO_put_10 (s_OO_isNobody C.ok hE g_h0 h) (fun r_2 I2 h => ?_)
    obtain ⟨rfl, h⟩ := h
    refine j_if_eq C d_OO_put_13 (tgt := 22) (by decide) (fun c13 => ?_) (fun c13 => ?_)
    · have h := h.1 c13
      refine j_aload_n C d_OO_put_22 rfl 0 rfl ?_
      refine fg_OO_12 C g_h0 d_OO_put_23 ?_
      refine fg_OO_86 C (sh_OO_0 hE g_h0) d_OO_put_26 ?_
      refine j_iload_n C d_OO_put_29 rfl 1 rfl ?_
      obtain ⟨hi_3, h⟩ := h
      refine j_aaload C (sh_TA_1 hE (sh_OO_0 hE g_h0)) hi_3 d_OO_put_30 ?_
      refine j_iload_n C d_OO_put_31 rfl 2 rfl ?_
      obtain ⟨hi, h⟩ := h
      refine j_iaload C (sr_24_24 hE (sh_TA_1 hE (sh_OO_0 hE g_h0)) hi_3) hi d_OO_put_32 ?_
      refine j_topi (fun v4_4 ev4_4 => ?_)
      have h := h v4_4 ev4_4
      refine j_istore C d_OO_put_33 (by decide) (lv' := [(4, .int v4_4), (0, .ref (E.2.2.1 h0)), (1, .int v1), (2, .int v2), (3, .int v3)]) rfl ?_
      refine j_aload_n C d_OO_put_35 rfl 1 rfl ?_
      refine fg_OO_12 C g_h0 d_OO_put_36 ?_
      refine j_iload_n C d_OO_put_39 rfl 2 rfl ?_
      refine j_iload_n C d_OO_put_40 rfl 3 rfl ?_
      refine j_iload_n C d_OO_put_41 rfl 4 rfl ?_
      refine j_callVv (As := [.int v1, .int v2, .int v3]) C jcl_TA cw_OO_90 w_366 w_367 (sh_OO_0 hE g_h0) rfl rfl (by decide) (by decide) (Nat.le_of_ble_eq_true rfl) d_OO_put_42 (s_TA_set C.ok hE (sh_OO_0 hE g_h0) h) (fun I_6 h => ?_)
      refine j_aload_n C d_OO_put_45 rfl 1 rfl ?_
      refine j_callVv (As := []) C jcl_OO cw_OO_94 w_294 ws_1 g_h0 rfl rfl (by decide) (by decide) (Nat.le_of_ble_eq_true rfl) d_OO_put_46 (s_OO_numbersChanged C.ok hE g_h0 h) (fun I_8 h => ?_)
      refine j_iload C d_OO_put_49 0 rfl ?_
      exact j_iret C hr d_OO_put_51 h
    · have h := h.2 c13
      refine j_lv [0] rfl ?_
      exact k_OO_put_16 C hr hE h0 I g_h0 h
theorem d_OO_ring_0 : decode prog_1_method_15_code 0 = .ok (.aload_n 0, 1) := by decide +kernel
theorem d_OO_ring_1 : decode prog_1_method_15_code 1 = .ok (.getfield 12, 3) := by decide +kernel
theorem d_OO_ring_4 : decode prog_1_method_15_code 4 = .ok (.getfield 104, 3) := by decide +kernel
theorem d_OO_ring_7 : decode prog_1_method_15_code 7 = .ok (.aload_n 0, 1) := by decide +kernel
theorem d_OO_ring_8 : decode prog_1_method_15_code 8 = .ok (.getfield 12, 3) := by decide +kernel
theorem d_OO_ring_11 : decode prog_1_method_15_code 11 = .ok (.getfield 159, 3) := by decide +kernel
theorem d_OO_ring_14 : decode prog_1_method_15_code 14 = .ok (.invokestatic 162, 3) := by decide +kernel
theorem d_OO_ring_17 : decode prog_1_method_15_code 17 = .ok (.ireturn, 1) := by decide +kernel
/-- OutOrder.ring()I -/
def OO_ring (h0 : Nat) (I : jM) (K : Int32 → Prop) : Prop :=
  RI_shortest (I (jr h0 0) 4) (jr (jr h0 0) 2) I (fun r_1 => K r_1)
set_option maxRecDepth 100000 in
set_option maxHeartbeats 4000000 in
theorem s_OO_ring {l : Launch} {E : jE} (ok : jOK E) (hE : E.2.2.2 = jLX) {h0 : Nat} (g_h0 : jOB E 10 h0) {I : jM} {K : Int32 → Prop} (h : OO_ring h0 I K) : jSi l E ⟨"OutOrder", "ring", "()I"⟩ prog_1_method_15_code 1 (some .int) 3 77 [.ref (E.2.2.1 h0)] I (fun r I2 => I = I2 ∧ K r) := by
  refine jS_ofF (own := "OutOrder") (by decide +kernel) rfl ok (Nat.le_of_ble_eq_true rfl) (fun Z _ C hr => ?_)
  show jJ Z E 1 (jQi Z E (fun r I2 => I = I2 ∧ K r)) 0 [(0, .ref (E.2.2.1 h0))] [] I
  unfold OO_ring at h
  refine j_aload_n C d_OO_ring_0 rfl 0 rfl ?_
  refine fg_OO_12 C g_h0 d_OO_ring_1 ?_
  refine fg_OO_104 C (sh_OO_0 hE g_h0) d_OO_ring_4 ?_
  refine j_aload_n C d_OO_ring_7 rfl 0 rfl ?_
  refine fg_OO_12 C g_h0 d_OO_ring_8 ?_
  refine fg_OO_159 C (sh_OO_0 hE g_h0) d_OO_ring_11 ?_
  refine j_callSi (As := [.int (I (jr h0 0) 4), .ref (E.2.2.1 (jr (jr h0 0) 2))]) C cw_OO_162 w_559 rfl rfl (by decide) (by decide) (Nat.le_of_ble_eq_true rfl) d_OO_ring_14 (s_RI_shortest C.ok (((sh_TA_2 hE (sh_OO_0 hE g_h0))).self) h) (fun r_1 I2 h => ?_)
  obtain ⟨rfl, h⟩ := h
  exact j_iret C hr d_OO_ring_17 ⟨rfl, h⟩
theorem d_OO_round_0 : decode prog_1_method_29_code 0 = .ok (.aload_n 0, 1) := by decide +kernel
theorem d_OO_round_1 : decode prog_1_method_29_code 1 = .ok (.iload_n 2, 1) := by decide +kernel
theorem d_OO_round_2 : decode prog_1_method_29_code 2 = .ok (.invokevirtual 83, 3) := by decide +kernel
theorem d_OO_round_5 : decode prog_1_method_29_code 5 = .ok (.ifCond .eq 9, 3) := by decide +kernel
theorem d_OO_round_8 : decode prog_1_method_29_code 8 = .ok (.aload_n 0, 1) := by decide +kernel
theorem d_OO_round_9 : decode prog_1_method_29_code 9 = .ok (.iconst (-1), 1) := by decide +kernel
theorem d_OO_round_10 : decode prog_1_method_29_code 10 = .ok (.invokevirtual 73, 3) := by decide +kernel
theorem d_OO_round_13 : decode prog_1_method_29_code 13 = .ok (.ireturn, 1) := by decide +kernel
theorem d_OO_round_14 : decode prog_1_method_29_code 14 = .ok (.iload_n 1, 1) := by decide +kernel
theorem d_OO_round_15 : decode prog_1_method_29_code 15 = .ok (.iconst 1, 1) := by decide +kernel
theorem d_OO_round_16 : decode prog_1_method_29_code 16 = .ok (.if_icmp .ge 10, 3) := by decide +kernel
theorem d_OO_round_19 : decode prog_1_method_29_code 19 = .ok (.aload_n 0, 1) := by decide +kernel
theorem d_OO_round_20 : decode prog_1_method_29_code 20 = .ok (.bipush (-4), 2) := by decide +kernel
theorem d_OO_round_22 : decode prog_1_method_29_code 22 = .ok (.invokevirtual 73, 3) := by decide +kernel
theorem d_OO_round_25 : decode prog_1_method_29_code 25 = .ok (.ireturn, 1) := by decide +kernel
theorem d_OO_round_26 : decode prog_1_method_29_code 26 = .ok (.iload_n 1, 1) := by decide +kernel
theorem d_OO_round_27 : decode prog_1_method_29_code 27 = .ok (.bipush 24, 2) := by decide +kernel
theorem d_OO_round_29 : decode prog_1_method_29_code 29 = .ok (.if_icmp .le 10, 3) := by decide +kernel
theorem d_OO_round_32 : decode prog_1_method_29_code 32 = .ok (.aload_n 0, 1) := by decide +kernel
theorem d_OO_round_33 : decode prog_1_method_29_code 33 = .ok (.bipush (-6), 2) := by decide +kernel
theorem d_OO_round_35 : decode prog_1_method_29_code 35 = .ok (.invokevirtual 73, 3) := by decide +kernel
theorem d_OO_round_38 : decode prog_1_method_29_code 38 = .ok (.ireturn, 1) := by decide +kernel
theorem d_OO_round_39 : decode prog_1_method_29_code 39 = .ok (.aload_n 0, 1) := by decide +kernel
theorem d_OO_round_40 : decode prog_1_method_29_code 40 = .ok (.getfield 61, 3) := by decide +kernel
theorem d_OO_round_43 : decode prog_1_method_29_code 43 = .ok (.iload_n 1, 1) := by decide +kernel
theorem d_OO_round_44 : decode prog_1_method_29_code 44 = .ok (.aload_n 0, 1) := by decide +kernel
theorem d_OO_round_45 : decode prog_1_method_29_code 45 = .ok (.getfield 19, 3) := by decide +kernel
theorem d_OO_round_48 : decode prog_1_method_29_code 48 = .ok (.aload_n 0, 1) := by decide +kernel
theorem d_OO_round_49 : decode prog_1_method_29_code 49 = .ok (.invokevirtual 114, 3) := by decide +kernel
theorem d_OO_round_52 : decode prog_1_method_29_code 52 = .ok (.invokevirtual 255, 3) := by decide +kernel
theorem d_OO_round_55 : decode prog_1_method_29_code 55 = .ok (.pop, 1) := by decide +kernel
theorem d_OO_round_56 : decode prog_1_method_29_code 56 = .ok (.aload_n 0, 1) := by decide +kernel
theorem d_OO_round_57 : decode prog_1_method_29_code 57 = .ok (.getfield 61, 3) := by decide +kernel
theorem d_OO_round_60 : decode prog_1_method_29_code 60 = .ok (.getfield 258, 3) := by decide +kernel
theorem d_OO_round_63 : decode prog_1_method_29_code 63 = .ok (.iload_n 2, 1) := by decide +kernel
theorem d_OO_round_64 : decode prog_1_method_29_code 64 = .ok (.iaload, 1) := by decide +kernel
theorem d_OO_round_65 : decode prog_1_method_29_code 65 = .ok (.ireturn, 1) := by decide +kernel
/-- OutOrder.round(II)I -/
def OO_round (h0 : Nat) (v1 : Int32) (v2 : Int32) (I : jM) (K : Int32 → jM → Prop) : Prop :=
  OO_isNobody h0 v2 I (fun r_1 => ((r_1 = 0 → (((1 : Int32) ≤ v1 → ((v1 ≤ (24 : Int32) → OO_fullNet h0 I (fun r_2 I_3 => (r_2 ∈ jLX ∧ jk r_2 = 0 ∧ PL_reckon (jr h0 7) v1 (jr h0 1) r_2 I_3 (fun r_6 I_7 => (vp_in v2 24 ∧ K (I_7 (jr (jr h0 7) 0) v2.toNatClampNeg) I_7))))) ∧ (¬ v1 ≤ (24 : Int32) → OO_refuse h0 (-6 : Int32) I (fun r_8 I_9 => K r_8 I_9)))) ∧ (¬ (1 : Int32) ≤ v1 → OO_refuse h0 (-4 : Int32) I (fun r_10 I_11 => K r_10 I_11)))) ∧ (¬ r_1 = 0 → OO_refuse h0 (-1 : Int32) I (fun r_12 I_13 => K r_12 I_13))))
set_option maxRecDepth 100000 in
set_option maxHeartbeats 4000000 in
theorem s_OO_round {l : Launch} {E : jE} (ok : jOK E) (hE : E.2.2.2 = jLX) {h0 : Nat} {v1 : Int32} {v2 : Int32} (g_h0 : jOB E 10 h0) {I : jM} {K : Int32 → jM → Prop} (h : OO_round h0 v1 v2 I K) : jSi l E ⟨"OutOrder", "round", "(II)I"⟩ prog_1_method_29_code 3 (some .int) 4 91 [.ref (E.2.2.1 h0), .int v1, .int v2] I K := by
  refine jS_ofF (own := "OutOrder") (by decide +kernel) rfl ok (Nat.le_of_ble_eq_true rfl) (fun Z _ C hr => ?_)
  show jJ Z E 3 (jQi Z E K) 0 [(0, .ref (E.2.2.1 h0)), (1, .int v1), (2, .int v2)] [] I
  unfold OO_round at h
  refine j_aload_n C d_OO_round_0 rfl 0 rfl ?_
  refine j_iload_n C d_OO_round_1 rfl 2 rfl ?_
  refine j_callVi (As := [.int v2]) C jcl_OO cw_OO_83 w_363 ws_4 g_h0 rfl rfl (by decide) (by decide) (Nat.le_of_ble_eq_true rfl) d_OO_round_2 (s_OO_isNobody C.ok hE g_h0 h) (fun r_1 I2 h => ?_)
  obtain ⟨rfl, h⟩ := h
  refine j_if_eq C d_OO_round_5 (tgt := 14) (by decide) (fun c5 => ?_) (fun c5 => ?_)
  · have h := h.1 c5
    refine j_iload_n C d_OO_round_14 rfl 1 rfl ?_
    refine j_iconst C d_OO_round_15 ic_1 ?_
    refine j_icmp_ge C d_OO_round_16 (tgt := 26) (by decide) (fun c16 => ?_) (fun c16 => ?_)
    · have h := h.1 c16
      refine j_iload_n C d_OO_round_26 rfl 1 rfl ?_
      refine j_bipush C d_OO_round_27 ib_24 ?_
      refine j_icmp_le C d_OO_round_29 (tgt := 39) (by decide) (fun c29 => ?_) (fun c29 => ?_)
      · have h := h.1 c29
        refine j_aload_n C d_OO_round_39 rfl 0 rfl ?_
        refine fg_OO_61 C g_h0 d_OO_round_40 ?_
        refine j_iload_n C d_OO_round_43 rfl 1 rfl ?_
        refine j_aload_n C d_OO_round_44 rfl 0 rfl ?_
        refine fg_OO_19 C g_h0 d_OO_round_45 ?_
        refine j_aload_n C d_OO_round_48 rfl 0 rfl ?_
        refine j_callVr (As := []) C jcl_OO cw_OO_114 w_491 ws_13 g_h0 rfl rfl (by decide) (by decide) (Nat.le_of_ble_eq_true rfl) d_OO_round_49 (s_OO_fullNet C.ok hE g_h0 h) (fun r_2 I_3 h => ?_)
        obtain ⟨q_4, q_5, h⟩ := h
        refine j_callVi (As := [.int v1, .ref (E.2.2.1 (jr h0 1)), .ref (E.2.2.1 r_2)]) C jcl_PL cw_OO_255 w_702 w_703 (sh_OO_7 hE g_h0) rfl rfl (by decide) (by decide) (Nat.le_of_ble_eq_true rfl) d_OO_round_52 (s_PL_reckon C.ok hE (sh_OO_7 hE g_h0) (sh_OO_1 hE g_h0) (⟨hE ▸ q_4, q_5⟩ : jOB E 0 r_2) h) (fun r_6 I_7 h => ?_)
        refine j_pop C d_OO_round_55 rfl ?_
        refine j_aload_n C d_OO_round_56 rfl 0 rfl ?_
        refine fg_OO_61 C g_h0 d_OO_round_57 ?_
        refine fg_OO_258 C (sh_OO_7 hE g_h0) d_OO_round_60 ?_
        refine j_iload_n C d_OO_round_63 rfl 2 rfl ?_
        obtain ⟨hi, h⟩ := h
        refine j_iaload C (sh_PL_0 hE (sh_OO_7 hE g_h0)) hi d_OO_round_64 ?_
        exact j_iret C hr d_OO_round_65 h
      · have h := h.2 c29
        refine j_aload_n C d_OO_round_32 rfl 0 rfl ?_
        refine j_bipush C d_OO_round_33 ib_m6 ?_
        refine j_callVi (As := [.int (-6 : Int32)]) C jcl_OO cw_OO_73 w_352 ws_3 g_h0 rfl rfl (by decide) (by decide) (Nat.le_of_ble_eq_true rfl) d_OO_round_35 (s_OO_refuse C.ok hE g_h0 h) (fun r_8 I_9 h => ?_)
        exact j_iret C hr d_OO_round_38 h
    · have h := h.2 c16
      refine j_aload_n C d_OO_round_19 rfl 0 rfl ?_
      refine j_bipush C d_OO_round_20 ib_m4 ?_
      refine j_callVi (As := [.int (-4 : Int32)]) C jcl_OO cw_OO_73 w_352 ws_3 g_h0 rfl rfl (by decide) (by decide) (Nat.le_of_ble_eq_true rfl) d_OO_round_22 (s_OO_refuse C.ok hE g_h0 h) (fun r_10 I_11 h => ?_)
      exact j_iret C hr d_OO_round_25 h
  · have h := h.2 c5
    refine j_aload_n C d_OO_round_8 rfl 0 rfl ?_
    refine j_iconst C d_OO_round_9 ic_m1 ?_
    refine j_callVi (As := [.int (-1 : Int32)]) C jcl_OO cw_OO_73 w_352 ws_3 g_h0 rfl rfl (by decide) (by decide) (Nat.le_of_ble_eq_true rfl) d_OO_round_10 (s_OO_refuse C.ok hE g_h0 h) (fun r_12 I_13 h => ?_)
    exact j_iret C hr d_OO_round_13 h
theorem d_OO_side_0 : decode prog_1_method_25_code 0 = .ok (.aload_n 0, 1) := by decide +kernel
theorem d_OO_side_1 : decode prog_1_method_25_code 1 = .ok (.iload_n 1, 1) := by decide +kernel
theorem d_OO_side_2 : decode prog_1_method_25_code 2 = .ok (.invokevirtual 83, 3) := by decide +kernel
theorem d_OO_side_5 : decode prog_1_method_25_code 5 = .ok (.ifCond .eq 9, 3) := by decide +kernel
theorem d_OO_side_8 : decode prog_1_method_25_code 8 = .ok (.aload_n 0, 1) := by decide +kernel
theorem d_OO_side_9 : decode prog_1_method_25_code 9 = .ok (.iconst (-1), 1) := by decide +kernel
theorem d_OO_side_10 : decode prog_1_method_25_code 10 = .ok (.invokevirtual 73, 3) := by decide +kernel
theorem d_OO_side_13 : decode prog_1_method_25_code 13 = .ok (.ireturn, 1) := by decide +kernel
theorem d_OO_side_14 : decode prog_1_method_25_code 14 = .ok (.aload_n 0, 1) := by decide +kernel
theorem d_OO_side_15 : decode prog_1_method_25_code 15 = .ok (.getfield 12, 3) := by decide +kernel
theorem d_OO_side_18 : decode prog_1_method_25_code 18 = .ok (.getfield 230, 3) := by decide +kernel
theorem d_OO_side_21 : decode prog_1_method_25_code 21 = .ok (.iload_n 1, 1) := by decide +kernel
theorem d_OO_side_22 : decode prog_1_method_25_code 22 = .ok (.iaload, 1) := by decide +kernel
theorem d_OO_side_23 : decode prog_1_method_25_code 23 = .ok (.istore_n 3, 1) := by decide +kernel
theorem d_OO_side_24 : decode prog_1_method_25_code 24 = .ok (.aload_n 0, 1) := by decide +kernel
theorem d_OO_side_25 : decode prog_1_method_25_code 25 = .ok (.getfield 12, 3) := by decide +kernel
theorem d_OO_side_28 : decode prog_1_method_25_code 28 = .ok (.getfield 230, 3) := by decide +kernel
theorem d_OO_side_31 : decode prog_1_method_25_code 31 = .ok (.iload_n 1, 1) := by decide +kernel
theorem d_OO_side_32 : decode prog_1_method_25_code 32 = .ok (.aload_n 0, 1) := by decide +kernel
theorem d_OO_side_33 : decode prog_1_method_25_code 33 = .ok (.getfield 12, 3) := by decide +kernel
theorem d_OO_side_36 : decode prog_1_method_25_code 36 = .ok (.getfield 233, 3) := by decide +kernel
theorem d_OO_side_39 : decode prog_1_method_25_code 39 = .ok (.iload_n 2, 1) := by decide +kernel
theorem d_OO_side_40 : decode prog_1_method_25_code 40 = .ok (.invokevirtual 237, 3) := by decide +kernel
theorem d_OO_side_43 : decode prog_1_method_25_code 43 = .ok (.iastore, 1) := by decide +kernel
theorem d_OO_side_44 : decode prog_1_method_25_code 44 = .ok (.iload_n 3, 1) := by decide +kernel
theorem d_OO_side_45 : decode prog_1_method_25_code 45 = .ok (.ireturn, 1) := by decide +kernel
/-- OutOrder.side(II)I -/
def OO_side (h0 : Nat) (v1 : Int32) (v2 : Int32) (I : jM) (K : Int32 → jM → Prop) : Prop :=
  OO_isNobody h0 v1 I (fun r_1 => ((r_1 = 0 → (vp_in v1 24 ∧ (∀ v3_2 : Int32, v3_2 = (I (jr (jr h0 0) 3) v1.toNatClampNeg) → MO_reduce (jr (jr h0 0) 0) v2 I (fun r_3 => (vp_in v1 24 ∧ (∀ I_4 : jM, I_4 = jwr I (jr (jr h0 0) 3) v1.toNatClampNeg r_3 → K v3_2 I_4)))))) ∧ (¬ r_1 = 0 → OO_refuse h0 (-1 : Int32) I (fun r_5 I_6 => K r_5 I_6))))
set_option maxRecDepth 100000 in
set_option maxHeartbeats 4000000 in
theorem s_OO_side {l : Launch} {E : jE} (ok : jOK E) (hE : E.2.2.2 = jLX) {h0 : Nat} {v1 : Int32} {v2 : Int32} (g_h0 : jOB E 10 h0) {I : jM} {K : Int32 → jM → Prop} (h : OO_side h0 v1 v2 I K) : jSi l E ⟨"OutOrder", "side", "(II)I"⟩ prog_1_method_25_code 4 (some .int) 2 43 [.ref (E.2.2.1 h0), .int v1, .int v2] I K := by
  refine jS_ofF (own := "OutOrder") (by decide +kernel) rfl ok (Nat.le_of_ble_eq_true rfl) (fun Z _ C hr => ?_)
  show jJ Z E 4 (jQi Z E K) 0 [(0, .ref (E.2.2.1 h0)), (1, .int v1), (2, .int v2)] [] I
  unfold OO_side at h
  refine j_aload_n C d_OO_side_0 rfl 0 rfl ?_
  refine j_iload_n C d_OO_side_1 rfl 1 rfl ?_
  refine j_callVi (As := [.int v1]) C jcl_OO cw_OO_83 w_363 ws_4 g_h0 rfl rfl (by decide) (by decide) (Nat.le_of_ble_eq_true rfl) d_OO_side_2 (s_OO_isNobody C.ok hE g_h0 h) (fun r_1 I2 h => ?_)
  obtain ⟨rfl, h⟩ := h
  refine j_if_eq C d_OO_side_5 (tgt := 14) (by decide) (fun c5 => ?_) (fun c5 => ?_)
  · have h := h.1 c5
    refine j_aload_n C d_OO_side_14 rfl 0 rfl ?_
    refine fg_OO_12 C g_h0 d_OO_side_15 ?_
    refine fg_OO_230 C (sh_OO_0 hE g_h0) d_OO_side_18 ?_
    refine j_iload_n C d_OO_side_21 rfl 1 rfl ?_
    obtain ⟨hi, h⟩ := h
    refine j_iaload C (sh_TA_3 hE (sh_OO_0 hE g_h0)) hi d_OO_side_22 ?_
    refine j_topi (fun v3_2 ev3_2 => ?_)
    have h := h v3_2 ev3_2
    refine j_istore_n C d_OO_side_23 rfl (by decide) (lv' := [(3, .int v3_2), (0, .ref (E.2.2.1 h0)), (1, .int v1), (2, .int v2)]) rfl ?_
    refine j_aload_n C d_OO_side_24 rfl 1 rfl ?_
    refine fg_OO_12 C g_h0 d_OO_side_25 ?_
    refine fg_OO_230 C (sh_OO_0 hE g_h0) d_OO_side_28 ?_
    refine j_iload_n C d_OO_side_31 rfl 2 rfl ?_
    refine j_aload_n C d_OO_side_32 rfl 1 rfl ?_
    refine fg_OO_12 C g_h0 d_OO_side_33 ?_
    refine fg_OO_233 C (sh_OO_0 hE g_h0) d_OO_side_36 ?_
    refine j_iload_n C d_OO_side_39 rfl 3 rfl ?_
    refine j_callVi (As := [.int v2]) C jcl_MO cw_OO_237 w_370 w_371 (sh_TA_0 hE (sh_OO_0 hE g_h0)) rfl rfl (by decide) (by decide) (Nat.le_of_ble_eq_true rfl) d_OO_side_40 (s_MO_reduce C.ok (sh_TA_0 hE (sh_OO_0 hE g_h0)) h) (fun r_3 I2 h => ?_)
    obtain ⟨rfl, h⟩ := h
    obtain ⟨hi, h⟩ := h
    refine j_iastore C (sh_TA_3 hE (sh_OO_0 hE g_h0)) hi d_OO_side_43 ?_
    have h := h _ rfl
    generalize eI_4 : (jwr I (jr (jr h0 0) 3) v1.toNatClampNeg r_3 : jM) = I_4 at h ⊢
    refine j_iload_n C d_OO_side_44 rfl 0 rfl ?_
    exact j_iret C hr d_OO_side_45 h
  · have h := h.2 c5
    refine j_aload_n C d_OO_side_8 rfl 0 rfl ?_
    refine j_iconst C d_OO_side_9 ic_m1 ?_
    refine j_callVi (As := [.int (-1 : Int32)]) C jcl_OO cw_OO_73 w_352 ws_3 g_h0 rfl rfl (by decide) (by decide) (Nat.le_of_ble_eq_true rfl) d_OO_side_10 (s_OO_refuse C.ok hE g_h0 h) (fun r_5 I_6 h => ?_)
    exact j_iret C hr d_OO_side_13 h
theorem d_OO_solve_0 : decode prog_1_method_26_code 0 = .ok (.aload_n 0, 1) := by decide +kernel
theorem d_OO_solve_1 : decode prog_1_method_26_code 1 = .ok (.iload_n 1, 1) := by decide +kernel
theorem d_OO_solve_2 : decode prog_1_method_26_code 2 = .ok (.invokevirtual 83, 3) := by decide +kernel
theorem d_OO_solve_5 : decode prog_1_method_26_code 5 = .ok (.ifCond .eq 9, 3) := by decide +kernel
theorem d_OO_solve_8 : decode prog_1_method_26_code 8 = .ok (.aload_n 0, 1) := by decide +kernel
theorem d_OO_solve_9 : decode prog_1_method_26_code 9 = .ok (.iconst (-1), 1) := by decide +kernel
theorem d_OO_solve_10 : decode prog_1_method_26_code 10 = .ok (.invokevirtual 73, 3) := by decide +kernel
theorem d_OO_solve_13 : decode prog_1_method_26_code 13 = .ok (.ireturn, 1) := by decide +kernel
theorem d_OO_solve_14 : decode prog_1_method_26_code 14 = .ok (.aload_n 0, 1) := by decide +kernel
theorem d_OO_solve_15 : decode prog_1_method_26_code 15 = .ok (.getfield 54, 3) := by decide +kernel
theorem d_OO_solve_18 : decode prog_1_method_26_code 18 = .ok (.aload_n 0, 1) := by decide +kernel
theorem d_OO_solve_19 : decode prog_1_method_26_code 19 = .ok (.getfield 12, 3) := by decide +kernel
theorem d_OO_solve_22 : decode prog_1_method_26_code 22 = .ok (.getfield 104, 3) := by decide +kernel
theorem d_OO_solve_25 : decode prog_1_method_26_code 25 = .ok (.invokevirtual 240, 3) := by decide +kernel
theorem d_OO_solve_28 : decode prog_1_method_26_code 28 = .ok (.ifCond .ne 10, 3) := by decide +kernel
theorem d_OO_solve_31 : decode prog_1_method_26_code 31 = .ok (.aload_n 0, 1) := by decide +kernel
theorem d_OO_solve_32 : decode prog_1_method_26_code 32 = .ok (.bipush (-5), 2) := by decide +kernel
theorem d_OO_solve_34 : decode prog_1_method_26_code 34 = .ok (.invokevirtual 73, 3) := by decide +kernel
theorem d_OO_solve_37 : decode prog_1_method_26_code 37 = .ok (.ireturn, 1) := by decide +kernel
theorem d_OO_solve_38 : decode prog_1_method_26_code 38 = .ok (.aload_n 0, 1) := by decide +kernel
theorem d_OO_solve_39 : decode prog_1_method_26_code 39 = .ok (.getfield 54, 3) := by decide +kernel
theorem d_OO_solve_42 : decode prog_1_method_26_code 42 = .ok (.aload_n 0, 1) := by decide +kernel
theorem d_OO_solve_43 : decode prog_1_method_26_code 43 = .ok (.getfield 12, 3) := by decide +kernel
theorem d_OO_solve_46 : decode prog_1_method_26_code 46 = .ok (.aload_n 0, 1) := by decide +kernel
theorem d_OO_solve_47 : decode prog_1_method_26_code 47 = .ok (.getfield 19, 3) := by decide +kernel
theorem d_OO_solve_50 : decode prog_1_method_26_code 50 = .ok (.invokevirtual 243, 3) := by decide +kernel
theorem d_OO_solve_53 : decode prog_1_method_26_code 53 = .ok (.aload_n 0, 1) := by decide +kernel
theorem d_OO_solve_54 : decode prog_1_method_26_code 54 = .ok (.getfield 54, 3) := by decide +kernel
theorem d_OO_solve_57 : decode prog_1_method_26_code 57 = .ok (.aload_n 0, 1) := by decide +kernel
theorem d_OO_solve_58 : decode prog_1_method_26_code 58 = .ok (.getfield 12, 3) := by decide +kernel
theorem d_OO_solve_61 : decode prog_1_method_26_code 61 = .ok (.invokevirtual 246, 3) := by decide +kernel
theorem d_OO_solve_64 : decode prog_1_method_26_code 64 = .ok (.aload_n 0, 1) := by decide +kernel
theorem d_OO_solve_65 : decode prog_1_method_26_code 65 = .ok (.getfield 54, 3) := by decide +kernel
theorem d_OO_solve_68 : decode prog_1_method_26_code 68 = .ok (.getfield 249, 3) := by decide +kernel
theorem d_OO_solve_71 : decode prog_1_method_26_code 71 = .ok (.aload_n 0, 1) := by decide +kernel
theorem d_OO_solve_72 : decode prog_1_method_26_code 72 = .ok (.getfield 19, 3) := by decide +kernel
theorem d_OO_solve_75 : decode prog_1_method_26_code 75 = .ok (.getfield 130, 3) := by decide +kernel
theorem d_OO_solve_78 : decode prog_1_method_26_code 78 = .ok (.iload_n 1, 1) := by decide +kernel
theorem d_OO_solve_79 : decode prog_1_method_26_code 79 = .ok (.iaload, 1) := by decide +kernel
theorem d_OO_solve_80 : decode prog_1_method_26_code 80 = .ok (.iaload, 1) := by decide +kernel
theorem d_OO_solve_81 : decode prog_1_method_26_code 81 = .ok (.ireturn, 1) := by decide +kernel
/-- OutOrder.solve(I)I -/
def OO_solve (h0 : Nat) (v1 : Int32) (I : jM) (K : Int32 → jM → Prop) : Prop :=
  OO_isNobody h0 v1 I (fun r_1 => ((r_1 = 0 → WO_canDivide (jr h0 6) (I (jr h0 0) 4) I (fun r_2 => ((¬ r_2 = 0 → WO_takeSides (jr h0 6) (jr h0 0) (jr h0 1) I (fun I_4 => WO_resolve (jr h0 6) (jr h0 0) I_4 (fun I_6 => (vp_in v1 24 ∧ (vp_in (I_6 (jr (jr h0 1) 1) v1.toNatClampNeg) 24 ∧ K (I_6 (jr (jr h0 6) 3) (I_6 (jr (jr h0 1) 1) v1.toNatClampNeg).toNatClampNeg) I_6))))) ∧ (r_2 = 0 → OO_refuse h0 (-5 : Int32) I (fun r_7 I_8 => K r_7 I_8))))) ∧ (¬ r_1 = 0 → OO_refuse h0 (-1 : Int32) I (fun r_9 I_10 => K r_9 I_10))))
set_option maxRecDepth 100000 in
set_option maxHeartbeats 4000000 in
theorem s_OO_solve {l : Launch} {E : jE} (ok : jOK E) (hE : E.2.2.2 = jLX) {h0 : Nat} {v1 : Int32} (g_h0 : jOB E 10 h0) {I : jM} {K : Int32 → jM → Prop} (h : OO_solve h0 v1 I K) : jSi l E ⟨"OutOrder", "solve", "(I)I"⟩ prog_1_method_26_code 2 (some .int) 4 90 [.ref (E.2.2.1 h0), .int v1] I K := by
  refine jS_ofF (own := "OutOrder") (by decide +kernel) rfl ok (Nat.le_of_ble_eq_true rfl) (fun Z _ C hr => ?_)
  show jJ Z E 2 (jQi Z E K) 0 [(0, .ref (E.2.2.1 h0)), (1, .int v1)] [] I
  unfold OO_solve at h
  refine j_aload_n C d_OO_solve_0 rfl 0 rfl ?_
  refine j_iload_n C d_OO_solve_1 rfl 1 rfl ?_
  refine j_callVi (As := [.int v1]) C jcl_OO cw_OO_83 w_363 ws_4 g_h0 rfl rfl (by decide) (by decide) (Nat.le_of_ble_eq_true rfl) d_OO_solve_2 (s_OO_isNobody C.ok hE g_h0 h) (fun r_1 I2 h => ?_)
  obtain ⟨rfl, h⟩ := h
  refine j_if_eq C d_OO_solve_5 (tgt := 14) (by decide) (fun c5 => ?_) (fun c5 => ?_)
  · have h := h.1 c5
    refine j_aload_n C d_OO_solve_14 rfl 0 rfl ?_
    refine fg_OO_54 C g_h0 d_OO_solve_15 ?_
    refine j_aload_n C d_OO_solve_18 rfl 0 rfl ?_
    refine fg_OO_12 C g_h0 d_OO_solve_19 ?_
    refine fg_OO_104 C (sh_OO_0 hE g_h0) d_OO_solve_22 ?_
    refine j_callVi (As := [.int (I (jr h0 0) 4)]) C jcl_WO cw_OO_240 w_678 w_679 (sh_OO_6 hE g_h0) rfl rfl (by decide) (by decide) (Nat.le_of_ble_eq_true rfl) d_OO_solve_25 (s_WO_canDivide C.ok hE (sh_OO_6 hE g_h0) h) (fun r_2 I2 h => ?_)
    obtain ⟨rfl, h⟩ := h
    refine j_if_ne C d_OO_solve_28 (tgt := 38) (by decide) (fun c28 => ?_) (fun c28 => ?_)
    · have h := h.1 c28
      refine j_aload_n C d_OO_solve_38 rfl 0 rfl ?_
      refine fg_OO_54 C g_h0 d_OO_solve_39 ?_
      refine j_aload_n C d_OO_solve_42 rfl 0 rfl ?_
      refine fg_OO_12 C g_h0 d_OO_solve_43 ?_
      refine j_aload_n C d_OO_solve_46 rfl 0 rfl ?_
      refine fg_OO_19 C g_h0 d_OO_solve_47 ?_
      refine j_callVv (As := [.ref (E.2.2.1 (jr h0 0)), .ref (E.2.2.1 (jr h0 1))]) C jcl_WO cw_OO_243 w_682 w_683 (sh_OO_6 hE g_h0) rfl rfl (by decide) (by decide) (Nat.le_of_ble_eq_true rfl) d_OO_solve_50 (s_WO_takeSides C.ok hE (sh_OO_6 hE g_h0) (sh_OO_0 hE g_h0) (sh_OO_1 hE g_h0) h) (fun I_4 h => ?_)
      refine j_aload_n C d_OO_solve_53 rfl 0 rfl ?_
      refine fg_OO_54 C g_h0 d_OO_solve_54 ?_
      refine j_aload_n C d_OO_solve_57 rfl 0 rfl ?_
      refine fg_OO_12 C g_h0 d_OO_solve_58 ?_
      refine j_callVv (As := [.ref (E.2.2.1 (jr h0 0))]) C jcl_WO cw_OO_246 w_686 w_687 (sh_OO_6 hE g_h0) rfl rfl (by decide) (by decide) (Nat.le_of_ble_eq_true rfl) d_OO_solve_61 (s_WO_resolve C.ok hE (sh_OO_6 hE g_h0) (sh_OO_0 hE g_h0) h) (fun I_6 h => ?_)
      refine j_aload_n C d_OO_solve_64 rfl 0 rfl ?_
      refine fg_OO_54 C g_h0 d_OO_solve_65 ?_
      refine fg_OO_249 C (sh_OO_6 hE g_h0) d_OO_solve_68 ?_
      refine j_aload_n C d_OO_solve_71 rfl 0 rfl ?_
      refine fg_OO_19 C g_h0 d_OO_solve_72 ?_
      refine fg_OO_130 C (sh_OO_1 hE g_h0) d_OO_solve_75 ?_
      refine j_iload_n C d_OO_solve_78 rfl 1 rfl ?_
      obtain ⟨hi, h⟩ := h
      refine j_iaload C (sh_RO_1 hE (sh_OO_1 hE g_h0)) hi d_OO_solve_79 ?_
      obtain ⟨hi, h⟩ := h
      refine j_iaload C (sh_WO_3 hE (sh_OO_6 hE g_h0)) hi d_OO_solve_80 ?_
      exact j_iret C hr d_OO_solve_81 h
    · have h := h.2 c28
      refine j_aload_n C d_OO_solve_31 rfl 0 rfl ?_
      refine j_bipush C d_OO_solve_32 ib_m5 ?_
      refine j_callVi (As := [.int (-5 : Int32)]) C jcl_OO cw_OO_73 w_352 ws_3 g_h0 rfl rfl (by decide) (by decide) (Nat.le_of_ble_eq_true rfl) d_OO_solve_34 (s_OO_refuse C.ok hE g_h0 h) (fun r_7 I_8 h => ?_)
      exact j_iret C hr d_OO_solve_37 h
  · have h := h.2 c5
    refine j_aload_n C d_OO_solve_8 rfl 0 rfl ?_
    refine j_iconst C d_OO_solve_9 ic_m1 ?_
    refine j_callVi (As := [.int (-1 : Int32)]) C jcl_OO cw_OO_73 w_352 ws_3 g_h0 rfl rfl (by decide) (by decide) (Nat.le_of_ble_eq_true rfl) d_OO_solve_10 (s_OO_refuse C.ok hE g_h0 h) (fun r_9 I_10 h => ?_)
    exact j_iret C hr d_OO_solve_13 h
theorem d_OO_startAnew_0 : decode prog_1_method_33_code 0 = .ok (.aload_n 0, 1) := by decide +kernel
theorem d_OO_startAnew_1 : decode prog_1_method_33_code 1 = .ok (.getfield 12, 3) := by decide +kernel
theorem d_OO_startAnew_4 : decode prog_1_method_33_code 4 = .ok (.iload_n 1, 1) := by decide +kernel
theorem d_OO_startAnew_5 : decode prog_1_method_33_code 5 = .ok (.iload_n 2, 1) := by decide +kernel
theorem d_OO_startAnew_6 : decode prog_1_method_33_code 6 = .ok (.invokevirtual 270, 3) := by decide +kernel
theorem d_OO_startAnew_9 : decode prog_1_method_33_code 9 = .ok (.aload_n 0, 1) := by decide +kernel
theorem d_OO_startAnew_10 : decode prog_1_method_33_code 10 = .ok (.getfield 19, 3) := by decide +kernel
theorem d_OO_startAnew_13 : decode prog_1_method_33_code 13 = .ok (.iload_n 1, 1) := by decide +kernel
theorem d_OO_startAnew_14 : decode prog_1_method_33_code 14 = .ok (.invokevirtual 273, 3) := by decide +kernel
theorem d_OO_startAnew_17 : decode prog_1_method_33_code 17 = .ok (.aload_n 0, 1) := by decide +kernel
theorem d_OO_startAnew_18 : decode prog_1_method_33_code 18 = .ok (.invokevirtual 94, 3) := by decide +kernel
theorem d_OO_startAnew_21 : decode prog_1_method_33_code 21 = .ok (.return_, 1) := by decide +kernel
/-- OutOrder.startAnew(II)V -/
def OO_startAnew (h0 : Nat) (v1 : Int32) (v2 : Int32) (I : jM) (K : jM → Prop) : Prop :=
  TA_clear (jr h0 0) v1 v2 I (fun I_2 => RO_byNumbers (jr h0 1) v1 I_2 (fun I_4 => OO_numbersChanged h0 I_4 (fun I_6 => K I_6)))
set_option maxRecDepth 100000 in
set_option maxHeartbeats 4000000 in
theorem s_OO_startAnew {l : Launch} {E : jE} (ok : jOK E) (hE : E.2.2.2 = jLX) {h0 : Nat} {v1 : Int32} {v2 : Int32} (g_h0 : jOB E 10 h0) {I : jM} {K : jM → Prop} (h : OO_startAnew h0 v1 v2 I K) : jSv l E ⟨"OutOrder", "startAnew", "(II)V"⟩ prog_1_method_33_code 3 none 3 63 [.ref (E.2.2.1 h0), .int v1, .int v2] I K := by
  refine jS_ofF (own := "OutOrder") (by decide +kernel) rfl ok (Nat.le_of_ble_eq_true rfl) (fun Z _ C hr => ?_)
  show jJ Z E 3 (jQv Z E K) 0 [(0, .ref (E.2.2.1 h0)), (1, .int v1), (2, .int v2)] [] I
  unfold OO_startAnew at h
  refine j_aload_n C d_OO_startAnew_0 rfl 0 rfl ?_
  refine fg_OO_12 C g_h0 d_OO_startAnew_1 ?_
  refine j_iload_n C d_OO_startAnew_4 rfl 1 rfl ?_
  refine j_iload_n C d_OO_startAnew_5 rfl 2 rfl ?_
  refine j_callVv (As := [.int v1, .int v2]) C jcl_TA cw_OO_270 w_281 w_282 (sh_OO_0 hE g_h0) rfl rfl (by decide) (by decide) (Nat.le_of_ble_eq_true rfl) d_OO_startAnew_6 (s_TA_clear C.ok hE (sh_OO_0 hE g_h0) h) (fun I_2 h => ?_)
  refine j_aload_n C d_OO_startAnew_9 rfl 0 rfl ?_
  refine fg_OO_19 C g_h0 d_OO_startAnew_10 ?_
  refine j_iload_n C d_OO_startAnew_13 rfl 1 rfl ?_
  refine j_callVv (As := [.int v1]) C jcl_RO cw_OO_273 w_285 w_286 (sh_OO_1 hE g_h0) rfl rfl (by decide) (by decide) (Nat.le_of_ble_eq_true rfl) d_OO_startAnew_14 (s_RO_byNumbers C.ok hE (sh_OO_1 hE g_h0) h) (fun I_4 h => ?_)
  refine j_aload_n C d_OO_startAnew_17 rfl 0 rfl ?_
  refine j_callVv (As := []) C jcl_OO cw_OO_94 w_294 ws_1 g_h0 rfl rfl (by decide) (by decide) (Nat.le_of_ble_eq_true rfl) d_OO_startAnew_18 (s_OO_numbersChanged C.ok hE g_h0 h) (fun I_6 h => ?_)
  exact j_vret C hr d_OO_startAnew_21 h
theorem d_OO_status_0 : decode prog_1_method_30_code 0 = .ok (.iload_n 1, 1) := by decide +kernel
theorem d_OO_status_1 : decode prog_1_method_30_code 1 = .ok (.bipush 10, 2) := by decide +kernel
theorem d_OO_status_3 : decode prog_1_method_30_code 3 = .ok (.if_icmp .le 25, 3) := by decide +kernel
theorem d_OO_status_6 : decode prog_1_method_30_code 6 = .ok (.iload_n 1, 1) := by decide +kernel
theorem d_OO_status_7 : decode prog_1_method_30_code 7 = .ok (.bipush 10, 2) := by decide +kernel
theorem d_OO_status_9 : decode prog_1_method_30_code 9 = .ok (.aload_n 0, 1) := by decide +kernel
theorem d_OO_status_10 : decode prog_1_method_30_code 10 = .ok (.getfield 65, 3) := by decide +kernel
theorem d_OO_status_13 : decode prog_1_method_30_code 13 = .ok (.arraylength, 1) := by decide +kernel
theorem d_OO_status_14 : decode prog_1_method_30_code 14 = .ok (.iadd, 1) := by decide +kernel
theorem d_OO_status_15 : decode prog_1_method_30_code 15 = .ok (.if_icmp .ge 13, 3) := by decide +kernel
theorem d_OO_status_18 : decode prog_1_method_30_code 18 = .ok (.aload_n 0, 1) := by decide +kernel
theorem d_OO_status_19 : decode prog_1_method_30_code 19 = .ok (.getfield 65, 3) := by decide +kernel
theorem d_OO_status_22 : decode prog_1_method_30_code 22 = .ok (.iload_n 1, 1) := by decide +kernel
theorem d_OO_status_23 : decode prog_1_method_30_code 23 = .ok (.bipush 10, 2) := by decide +kernel
theorem d_OO_status_25 : decode prog_1_method_30_code 25 = .ok (.isub, 1) := by decide +kernel
theorem d_OO_status_26 : decode prog_1_method_30_code 26 = .ok (.iaload, 1) := by decide +kernel
theorem d_OO_status_27 : decode prog_1_method_30_code 27 = .ok (.ireturn, 1) := by decide +kernel
theorem d_OO_status_28 : decode prog_1_method_30_code 28 = .ok (.iload_n 1, 1) := by decide +kernel
theorem d_OO_status_29 : decode prog_1_method_30_code 29 = .ok (.tableswitch 140 0 7 #[47, 55, 66, 74, 85, 93, 101, 132], 47) := by decide +kernel
theorem d_OO_status_76 : decode prog_1_method_30_code 76 = .ok (.aload_n 0, 1) := by decide +kernel
theorem d_OO_status_77 : decode prog_1_method_30_code 77 = .ok (.getfield 12, 3) := by decide +kernel
theorem d_OO_status_80 : decode prog_1_method_30_code 80 = .ok (.getfield 104, 3) := by decide +kernel
theorem d_OO_status_83 : decode prog_1_method_30_code 83 = .ok (.ireturn, 1) := by decide +kernel
theorem d_OO_status_84 : decode prog_1_method_30_code 84 = .ok (.aload_n 0, 1) := by decide +kernel
theorem d_OO_status_85 : decode prog_1_method_30_code 85 = .ok (.getfield 12, 3) := by decide +kernel
theorem d_OO_status_88 : decode prog_1_method_30_code 88 = .ok (.getfield 233, 3) := by decide +kernel
theorem d_OO_status_91 : decode prog_1_method_30_code 91 = .ok (.getfield 261, 3) := by decide +kernel
theorem d_OO_status_94 : decode prog_1_method_30_code 94 = .ok (.ireturn, 1) := by decide +kernel
theorem d_OO_status_95 : decode prog_1_method_30_code 95 = .ok (.aload_n 0, 1) := by decide +kernel
theorem d_OO_status_96 : decode prog_1_method_30_code 96 = .ok (.getfield 12, 3) := by decide +kernel
theorem d_OO_status_99 : decode prog_1_method_30_code 99 = .ok (.invokevirtual 175, 3) := by decide +kernel
theorem d_OO_status_102 : decode prog_1_method_30_code 102 = .ok (.ireturn, 1) := by decide +kernel
theorem d_OO_status_103 : decode prog_1_method_30_code 103 = .ok (.aload_n 0, 1) := by decide +kernel
theorem d_OO_status_104 : decode prog_1_method_30_code 104 = .ok (.getfield 12, 3) := by decide +kernel
theorem d_OO_status_107 : decode prog_1_method_30_code 107 = .ok (.getfield 100, 3) := by decide +kernel
theorem d_OO_status_110 : decode prog_1_method_30_code 110 = .ok (.invokestatic 136, 3) := by decide +kernel
theorem d_OO_status_113 : decode prog_1_method_30_code 113 = .ok (.ireturn, 1) := by decide +kernel
theorem d_OO_status_114 : decode prog_1_method_30_code 114 = .ok (.aload_n 0, 1) := by decide +kernel
theorem d_OO_status_115 : decode prog_1_method_30_code 115 = .ok (.getfield 47, 3) := by decide +kernel
theorem d_OO_status_118 : decode prog_1_method_30_code 118 = .ok (.getfield 264, 3) := by decide +kernel
theorem d_OO_status_121 : decode prog_1_method_30_code 121 = .ok (.ireturn, 1) := by decide +kernel
theorem d_OO_status_122 : decode prog_1_method_30_code 122 = .ok (.aload_n 0, 1) := by decide +kernel
theorem d_OO_status_123 : decode prog_1_method_30_code 123 = .ok (.getfield 54, 3) := by decide +kernel
theorem d_OO_status_126 : decode prog_1_method_30_code 126 = .ok (.getfield 215, 3) := by decide +kernel
theorem d_OO_status_129 : decode prog_1_method_30_code 129 = .ok (.ireturn, 1) := by decide +kernel
theorem d_OO_status_130 : decode prog_1_method_30_code 130 = .ok (.aload_n 0, 1) := by decide +kernel
theorem d_OO_status_131 : decode prog_1_method_30_code 131 = .ok (.getfield 54, 3) := by decide +kernel
theorem d_OO_status_134 : decode prog_1_method_30_code 134 = .ok (.getfield 218, 3) := by decide +kernel
theorem d_OO_status_137 : decode prog_1_method_30_code 137 = .ok (.ifCond .ge 8, 3) := by decide +kernel
theorem d_OO_status_140 : decode prog_1_method_30_code 140 = .ok (.bipush (-9), 2) := by decide +kernel
theorem d_OO_status_142 : decode prog_1_method_30_code 142 = .ok (.goto 18, 3) := by decide +kernel
theorem d_OO_status_145 : decode prog_1_method_30_code 145 = .ok (.aload_n 0, 1) := by decide +kernel
theorem d_OO_status_146 : decode prog_1_method_30_code 146 = .ok (.getfield 19, 3) := by decide +kernel
theorem d_OO_status_149 : decode prog_1_method_30_code 149 = .ok (.getfield 124, 3) := by decide +kernel
theorem d_OO_status_152 : decode prog_1_method_30_code 152 = .ok (.aload_n 0, 1) := by decide +kernel
theorem d_OO_status_153 : decode prog_1_method_30_code 153 = .ok (.getfield 54, 3) := by decide +kernel
theorem d_OO_status_156 : decode prog_1_method_30_code 156 = .ok (.getfield 218, 3) := by decide +kernel
theorem d_OO_status_159 : decode prog_1_method_30_code 159 = .ok (.iaload, 1) := by decide +kernel
theorem d_OO_status_160 : decode prog_1_method_30_code 160 = .ok (.ireturn, 1) := by decide +kernel
theorem d_OO_status_161 : decode prog_1_method_30_code 161 = .ok (.aload_n 0, 1) := by decide +kernel
theorem d_OO_status_162 : decode prog_1_method_30_code 162 = .ok (.getfield 12, 3) := by decide +kernel
theorem d_OO_status_165 : decode prog_1_method_30_code 165 = .ok (.invokevirtual 267, 3) := by decide +kernel
theorem d_OO_status_168 : decode prog_1_method_30_code 168 = .ok (.ireturn, 1) := by decide +kernel
theorem d_OO_status_169 : decode prog_1_method_30_code 169 = .ok (.bipush (-9), 2) := by decide +kernel
theorem d_OO_status_171 : decode prog_1_method_30_code 171 = .ok (.ireturn, 1) := by decide +kernel
def OO_status_28 (h0 : Nat) (v1 : Int32) (I : jM) (K : Int32 → Prop) : Prop :=
  ((v1 = 0 → K (I (jr h0 0) 4)) ∧ (v1 = 1 → K (I (jr (jr h0 0) 0) 0)) ∧ (v1 = 2 → TA_pairs (jr h0 0) I (fun r_1 => K r_1)) ∧ (v1 = 3 → JI_bitCount (I (jr h0 0) 5) I (fun r_2 => K r_2)) ∧ (v1 = 4 → K (I (jr h0 5) 2)) ∧ (v1 = 5 → K (I (jr h0 6) 4)) ∧ (v1 = 6 → ((0 ≤ (I (jr h0 6) 5) → (vp_in (I (jr h0 6) 5) 24 ∧ K (I (jr (jr h0 1) 0) (I (jr h0 6) 5).toNatClampNeg))) ∧ (¬ 0 ≤ (I (jr h0 6) 5) → K (-9 : Int32)))) ∧ (v1 = 7 → TA_digest (jr h0 0) I (fun r_3 => K r_3)) ∧ (¬ v1 = 0 → ¬ v1 = 1 → ¬ v1 = 2 → ¬ v1 = 3 → ¬ v1 = 4 → ¬ v1 = 5 → ¬ v1 = 6 → ¬ v1 = 7 → K (-9 : Int32)))
set_option maxRecDepth 100000 in
set_option maxHeartbeats 4000000 in
theorem k_OO_status_28 {Z : jZ} {E : jE} (C : jC Z E prog_1_method_30_code 2 "OutOrder" 2 42) (hr : (jZh Z).sig.returnType = (some .int)) (hE : E.2.2.2 = jLX)  (h0 : Nat) (v1 : Int32) (I : jM) (g_h0 : jOB E 10 h0) {K : Int32 → Prop} (h : OO_status_28 h0 v1 I K) : jJ Z E 2 (jQi Z E (fun r I2 => I = I2 ∧ K r)) 28 [(0, .ref (E.2.2.1 h0)), (1, .int v1)] [] I := by
  unfold OO_status_28 at h
  refine j_iload_n C d_OO_status_28 rfl 1 rfl ?_
  by_cases c29_0 : v1 = 0
  · have h := h.1 c29_0
    refine j_tableIn C d_OO_status_29 (off := 47) (tgt := 76) (by rw [c29_0]; decide) (by rw [c29_0]; decide) (by rw [c29_0]; rfl) (by decide) ?_
    refine j_aload_n C d_OO_status_76 rfl 0 rfl ?_
    refine fg_OO_12 C g_h0 d_OO_status_77 ?_
    refine fg_OO_104 C (sh_OO_0 hE g_h0) d_OO_status_80 ?_
    exact j_iret C hr d_OO_status_83 ⟨rfl, h⟩
  by_cases c29_1 : v1 = 1
  · have h := h.2.1 c29_1
    refine j_tableIn C d_OO_status_29 (off := 55) (tgt := 84) (by rw [c29_1]; decide) (by rw [c29_1]; decide) (by rw [c29_1]; rfl) (by decide) ?_
    refine j_aload_n C d_OO_status_84 rfl 0 rfl ?_
    refine fg_OO_12 C g_h0 d_OO_status_85 ?_
    refine fg_OO_233 C (sh_OO_0 hE g_h0) d_OO_status_88 ?_
    refine fg_OO_261 C (sh_TA_0 hE (sh_OO_0 hE g_h0)) d_OO_status_91 ?_
    exact j_iret C hr d_OO_status_94 ⟨rfl, h⟩
  by_cases c29_2 : v1 = 2
  · have h := h.2.2.1 c29_2
    refine j_tableIn C d_OO_status_29 (off := 66) (tgt := 95) (by rw [c29_2]; decide) (by rw [c29_2]; decide) (by rw [c29_2]; rfl) (by decide) ?_
    refine j_aload_n C d_OO_status_95 rfl 0 rfl ?_
    refine fg_OO_12 C g_h0 d_OO_status_96 ?_
    refine j_callVi (As := []) C jcl_TA cw_OO_175 w_576 w_577 (sh_OO_0 hE g_h0) rfl rfl (by decide) (by decide) (Nat.le_of_ble_eq_true rfl) d_OO_status_99 (s_TA_pairs C.ok hE (sh_OO_0 hE g_h0) h) (fun r_1 I2 h => ?_)
    obtain ⟨rfl, h⟩ := h
    exact j_iret C hr d_OO_status_102 ⟨rfl, h⟩
  by_cases c29_3 : v1 = 3
  · have h := h.2.2.2.1 c29_3
    refine j_tableIn C d_OO_status_29 (off := 74) (tgt := 103) (by rw [c29_3]; decide) (by rw [c29_3]; decide) (by rw [c29_3]; rfl) (by decide) ?_
    refine j_aload_n C d_OO_status_103 rfl 0 rfl ?_
    refine fg_OO_12 C g_h0 d_OO_status_104 ?_
    refine fg_OO_100 C (sh_OO_0 hE g_h0) d_OO_status_107 ?_
    refine j_callSi (As := [.int (I (jr h0 0) 5)]) C cw_OO_136 w_412 rfl rfl (by decide) (by decide) (Nat.le_of_ble_eq_true rfl) d_OO_status_110 (s_JI_bitCount C.ok  h) (fun r_2 I2 h => ?_)
    obtain ⟨rfl, h⟩ := h
    exact j_iret C hr d_OO_status_113 ⟨rfl, h⟩
  by_cases c29_4 : v1 = 4
  · have h := h.2.2.2.2.1 c29_4
    refine j_tableIn C d_OO_status_29 (off := 85) (tgt := 114) (by rw [c29_4]; decide) (by rw [c29_4]; decide) (by rw [c29_4]; rfl) (by decide) ?_
    refine j_aload_n C d_OO_status_114 rfl 0 rfl ?_
    refine fg_OO_47 C g_h0 d_OO_status_115 ?_
    refine fg_OO_264 C (sh_OO_5 hE g_h0) d_OO_status_118 ?_
    exact j_iret C hr d_OO_status_121 ⟨rfl, h⟩
  by_cases c29_5 : v1 = 5
  · have h := h.2.2.2.2.2.1 c29_5
    refine j_tableIn C d_OO_status_29 (off := 93) (tgt := 122) (by rw [c29_5]; decide) (by rw [c29_5]; decide) (by rw [c29_5]; rfl) (by decide) ?_
    refine j_aload_n C d_OO_status_122 rfl 0 rfl ?_
    refine fg_OO_54 C g_h0 d_OO_status_123 ?_
    refine fg_OO_215 C (sh_OO_6 hE g_h0) d_OO_status_126 ?_
    exact j_iret C hr d_OO_status_129 ⟨rfl, h⟩
  by_cases c29_6 : v1 = 6
  · have h := h.2.2.2.2.2.2.1 c29_6
    refine j_tableIn C d_OO_status_29 (off := 101) (tgt := 130) (by rw [c29_6]; decide) (by rw [c29_6]; decide) (by rw [c29_6]; rfl) (by decide) ?_
    refine j_aload_n C d_OO_status_130 rfl 0 rfl ?_
    refine fg_OO_54 C g_h0 d_OO_status_131 ?_
    refine fg_OO_218 C (sh_OO_6 hE g_h0) d_OO_status_134 ?_
    refine j_if_ge C d_OO_status_137 (tgt := 145) (by decide) (fun c137 => ?_) (fun c137 => ?_)
    · have h := h.1 c137
      refine j_aload_n C d_OO_status_145 rfl 0 rfl ?_
      refine fg_OO_19 C g_h0 d_OO_status_146 ?_
      refine fg_OO_124 C (sh_OO_1 hE g_h0) d_OO_status_149 ?_
      refine j_aload_n C d_OO_status_152 rfl 0 rfl ?_
      refine fg_OO_54 C g_h0 d_OO_status_153 ?_
      refine fg_OO_218 C (sh_OO_6 hE g_h0) d_OO_status_156 ?_
      obtain ⟨hi, h⟩ := h
      refine j_iaload C (sh_RO_0 hE (sh_OO_1 hE g_h0)) hi d_OO_status_159 ?_
      exact j_iret C hr d_OO_status_160 ⟨rfl, h⟩
    · have h := h.2 c137
      refine j_bipush C d_OO_status_140 ib_m9 ?_
      refine j_goto C d_OO_status_142 (tgt := 160) (by decide) ?_
      exact j_iret C hr d_OO_status_160 ⟨rfl, h⟩
  by_cases c29_7 : v1 = 7
  · have h := h.2.2.2.2.2.2.2.1 c29_7
    refine j_tableIn C d_OO_status_29 (off := 132) (tgt := 161) (by rw [c29_7]; decide) (by rw [c29_7]; decide) (by rw [c29_7]; rfl) (by decide) ?_
    refine j_aload_n C d_OO_status_161 rfl 0 rfl ?_
    refine fg_OO_12 C g_h0 d_OO_status_162 ?_
    refine j_callVi (As := []) C jcl_TA cw_OO_267 w_720 w_721 (sh_OO_0 hE g_h0) rfl rfl (by decide) (by decide) (Nat.le_of_ble_eq_true rfl) d_OO_status_165 (s_TA_digest C.ok hE (sh_OO_0 hE g_h0) h) (fun r_3 I2 h => ?_)
    obtain ⟨rfl, h⟩ := h
    exact j_iret C hr d_OO_status_168 ⟨rfl, h⟩
  have h := h.2.2.2.2.2.2.2.2 c29_0 c29_1 c29_2 c29_3 c29_4 c29_5 c29_6 c29_7
  refine j_tableOut C d_OO_status_29 (tgt := 169) (by have n0 := sw_ne (n := 0) (by decide) c29_0; have n1 := sw_ne (n := 1) (by decide) c29_1; have n2 := sw_ne (n := 2) (by decide) c29_2; have n3 := sw_ne (n := 3) (by decide) c29_3; have n4 := sw_ne (n := 4) (by decide) c29_4; have n5 := sw_ne (n := 5) (by decide) c29_5; have n6 := sw_ne (n := 6) (by decide) c29_6; have n7 := sw_ne (n := 7) (by decide) c29_7; omega) (by decide) ?_
  refine j_bipush C d_OO_status_169 ib_m9 ?_
  exact j_iret C hr d_OO_status_171 ⟨rfl, h⟩
/-- OutOrder.status(I)I -/
def OO_status (h0 : Nat) (v1 : Int32) (I : jM) (K : Int32 → Prop) : Prop :=
  ((v1 ≤ (10 : Int32) → OO_status_28 h0 v1 I K) ∧ (¬ v1 ≤ (10 : Int32) → ((((10 : Int32) + (7 : Int32)) ≤ v1 → OO_status_28 h0 v1 I K) ∧ (¬ ((10 : Int32) + (7 : Int32)) ≤ v1 → (vp_in (v1 - (10 : Int32)) 7 ∧ K (I (jr h0 8) (v1 - (10 : Int32)).toNatClampNeg))))))
set_option maxRecDepth 100000 in
set_option maxHeartbeats 4000000 in
theorem s_OO_status {l : Launch} {E : jE} (ok : jOK E) (hE : E.2.2.2 = jLX) {h0 : Nat} {v1 : Int32} (g_h0 : jOB E 10 h0) {I : jM} {K : Int32 → Prop} (h : OO_status h0 v1 I K) : jSi l E ⟨"OutOrder", "status", "(I)I"⟩ prog_1_method_30_code 2 (some .int) 2 42 [.ref (E.2.2.1 h0), .int v1] I (fun r I2 => I = I2 ∧ K r) := by
  refine jS_ofF (own := "OutOrder") (by decide +kernel) rfl ok (Nat.le_of_ble_eq_true rfl) (fun Z _ C hr => ?_)
  show jJ Z E 2 (jQi Z E (fun r I2 => I = I2 ∧ K r)) 0 [(0, .ref (E.2.2.1 h0)), (1, .int v1)] [] I
  unfold OO_status at h
  refine j_iload_n C d_OO_status_0 rfl 1 rfl ?_
  refine j_bipush C d_OO_status_1 ib_10 ?_
  refine j_icmp_le C d_OO_status_3 (tgt := 28) (by decide) (fun c3 => ?_) (fun c3 => ?_)
  · have h := h.1 c3
    refine j_lv [0, 1] rfl ?_
    exact k_OO_status_28 C hr hE h0 v1 I g_h0 h
  · have h := h.2 c3
    refine j_iload_n C d_OO_status_6 rfl 1 rfl ?_
    refine j_bipush C d_OO_status_7 ib_10 ?_
    refine j_aload_n C d_OO_status_9 rfl 0 rfl ?_
    refine fg_OO_65 C g_h0 d_OO_status_10 ?_
    refine j_alen C (sh_OO_8 hE g_h0) (v := (7 : Int32)) (by decide) d_OO_status_13 ?_
    refine j_iadd C d_OO_status_14 ?_
    refine j_icmp_ge C d_OO_status_15 (tgt := 28) (by decide) (fun c15 => ?_) (fun c15 => ?_)
    · have h := h.1 c15
      refine j_lv [0, 1] rfl ?_
      exact k_OO_status_28 C hr hE h0 v1 I g_h0 h
    · have h := h.2 c15
      refine j_aload_n C d_OO_status_18 rfl 0 rfl ?_
      refine fg_OO_65 C g_h0 d_OO_status_19 ?_
      refine j_iload_n C d_OO_status_22 rfl 1 rfl ?_
      refine j_bipush C d_OO_status_23 ib_10 ?_
      refine j_isub C d_OO_status_25 ?_
      obtain ⟨hi, h⟩ := h
      refine j_iaload C (sh_OO_8 hE g_h0) hi d_OO_status_26 ?_
      exact j_iret C hr d_OO_status_27 ⟨rfl, h⟩
theorem d_OO_swap_0 : decode prog_1_method_7_code 0 = .ok (.aload_n 0, 1) := by decide +kernel
theorem d_OO_swap_1 : decode prog_1_method_7_code 1 = .ok (.iload_n 1, 1) := by decide +kernel
theorem d_OO_swap_2 : decode prog_1_method_7_code 2 = .ok (.invokevirtual 83, 3) := by decide +kernel
theorem d_OO_swap_5 : decode prog_1_method_7_code 5 = .ok (.ifCond .ne 11, 3) := by decide +kernel
theorem d_OO_swap_8 : decode prog_1_method_7_code 8 = .ok (.aload_n 0, 1) := by decide +kernel
theorem d_OO_swap_9 : decode prog_1_method_7_code 9 = .ok (.iload_n 2, 1) := by decide +kernel
theorem d_OO_swap_10 : decode prog_1_method_7_code 10 = .ok (.invokevirtual 83, 3) := by decide +kernel
theorem d_OO_swap_13 : decode prog_1_method_7_code 13 = .ok (.ifCond .eq 9, 3) := by decide +kernel
theorem d_OO_swap_16 : decode prog_1_method_7_code 16 = .ok (.aload_n 0, 1) := by decide +kernel
theorem d_OO_swap_17 : decode prog_1_method_7_code 17 = .ok (.iconst (-1), 1) := by decide +kernel
theorem d_OO_swap_18 : decode prog_1_method_7_code 18 = .ok (.invokevirtual 73, 3) := by decide +kernel
theorem d_OO_swap_21 : decode prog_1_method_7_code 21 = .ok (.ireturn, 1) := by decide +kernel
theorem d_OO_swap_22 : decode prog_1_method_7_code 22 = .ok (.aload_n 0, 1) := by decide +kernel
theorem d_OO_swap_23 : decode prog_1_method_7_code 23 = .ok (.getfield 19, 3) := by decide +kernel
theorem d_OO_swap_26 : decode prog_1_method_7_code 26 = .ok (.iload_n 1, 1) := by decide +kernel
theorem d_OO_swap_27 : decode prog_1_method_7_code 27 = .ok (.iload_n 2, 1) := by decide +kernel
theorem d_OO_swap_28 : decode prog_1_method_7_code 28 = .ok (.invokevirtual 121, 3) := by decide +kernel
theorem d_OO_swap_31 : decode prog_1_method_7_code 31 = .ok (.aload_n 0, 1) := by decide +kernel
theorem d_OO_swap_32 : decode prog_1_method_7_code 32 = .ok (.invokevirtual 111, 3) := by decide +kernel
theorem d_OO_swap_35 : decode prog_1_method_7_code 35 = .ok (.iconst 1, 1) := by decide +kernel
theorem d_OO_swap_36 : decode prog_1_method_7_code 36 = .ok (.ireturn, 1) := by decide +kernel
def OO_swap_16 (h0 : Nat) (I : jM) (K : Int32 → jM → Prop) : Prop :=
  OO_refuse h0 (-1 : Int32) I (fun r_1 I_2 => K r_1 I_2)
set_option maxRecDepth 100000 in
set_option maxHeartbeats 4000000 in
theorem k_OO_swap_16 {Z : jZ} {E : jE} (C : jC Z E prog_1_method_7_code 3 "OutOrder" 2 45) (hr : (jZh Z).sig.returnType = (some .int)) (hE : E.2.2.2 = jLX)  (h0 : Nat) (I : jM) (g_h0 : jOB E 10 h0) {K : Int32 → jM → Prop} (h : OO_swap_16 h0 I K) : jJ Z E 3 (jQi Z E K) 16 [(0, .ref (E.2.2.1 h0))] [] I := by
  unfold OO_swap_16 at h
  refine j_aload_n C d_OO_swap_16 rfl 0 rfl ?_
  refine j_iconst C d_OO_swap_17 ic_m1 ?_
  refine j_callVi (As := [.int (-1 : Int32)]) C jcl_OO cw_OO_73 w_352 ws_3 g_h0 rfl rfl (by decide) (by decide) (Nat.le_of_ble_eq_true rfl) d_OO_swap_18 (s_OO_refuse C.ok hE g_h0 h) (fun r_1 I_2 h => ?_)
  exact j_iret C hr d_OO_swap_21 h
/-- OutOrder.swap(II)I -/
def OO_swap (h0 : Nat) (v1 : Int32) (v2 : Int32) (I : jM) (K : Int32 → jM → Prop) : Prop :=
  OO_isNobody h0 v1 I (fun r_1 => ((¬ r_1 = 0 → OO_swap_16 h0 I K) ∧ (r_1 = 0 → OO_isNobody h0 v2 I (fun r_2 => ((r_2 = 0 → RO_exchange (jr h0 1) v1 v2 I (fun I_4 => OO_orderChanged h0 I_4 (fun I_6 => K (1 : Int32) I_6))) ∧ (¬ r_2 = 0 → OO_swap_16 h0 I K))))))
set_option maxRecDepth 100000 in
set_option maxHeartbeats 4000000 in
theorem s_OO_swap {l : Launch} {E : jE} (ok : jOK E) (hE : E.2.2.2 = jLX) {h0 : Nat} {v1 : Int32} {v2 : Int32} (g_h0 : jOB E 10 h0) {I : jM} {K : Int32 → jM → Prop} (h : OO_swap h0 v1 v2 I K) : jSi l E ⟨"OutOrder", "swap", "(II)I"⟩ prog_1_method_7_code 3 (some .int) 2 45 [.ref (E.2.2.1 h0), .int v1, .int v2] I K := by
  refine jS_ofF (own := "OutOrder") (by decide +kernel) rfl ok (Nat.le_of_ble_eq_true rfl) (fun Z _ C hr => ?_)
  show jJ Z E 3 (jQi Z E K) 0 [(0, .ref (E.2.2.1 h0)), (1, .int v1), (2, .int v2)] [] I
  unfold OO_swap at h
  refine j_aload_n C d_OO_swap_0 rfl 0 rfl ?_
  refine j_iload_n C d_OO_swap_1 rfl 1 rfl ?_
  refine j_callVi (As := [.int v1]) C jcl_OO cw_OO_83 w_363 ws_4 g_h0 rfl rfl (by decide) (by decide) (Nat.le_of_ble_eq_true rfl) d_OO_swap_2 (s_OO_isNobody C.ok hE g_h0 h) (fun r_1 I2 h => ?_)
  obtain ⟨rfl, h⟩ := h
  refine j_if_ne C d_OO_swap_5 (tgt := 16) (by decide) (fun c5 => ?_) (fun c5 => ?_)
  · have h := h.1 c5
    refine j_lv [0] rfl ?_
    exact k_OO_swap_16 C hr hE h0 I g_h0 h
  · have h := h.2 c5
    refine j_aload_n C d_OO_swap_8 rfl 0 rfl ?_
    refine j_iload_n C d_OO_swap_9 rfl 2 rfl ?_
    refine j_callVi (As := [.int v2]) C jcl_OO cw_OO_83 w_363 ws_4 g_h0 rfl rfl (by decide) (by decide) (Nat.le_of_ble_eq_true rfl) d_OO_swap_10 (s_OO_isNobody C.ok hE g_h0 h) (fun r_2 I2 h => ?_)
    obtain ⟨rfl, h⟩ := h
    refine j_if_eq C d_OO_swap_13 (tgt := 22) (by decide) (fun c13 => ?_) (fun c13 => ?_)
    · have h := h.1 c13
      refine j_aload_n C d_OO_swap_22 rfl 0 rfl ?_
      refine fg_OO_19 C g_h0 d_OO_swap_23 ?_
      refine j_iload_n C d_OO_swap_26 rfl 1 rfl ?_
      refine j_iload_n C d_OO_swap_27 rfl 2 rfl ?_
      refine j_callVv (As := [.int v1, .int v2]) C jcl_RO cw_OO_121 w_401 w_402 (sh_OO_1 hE g_h0) rfl rfl (by decide) (by decide) (Nat.le_of_ble_eq_true rfl) d_OO_swap_28 (s_RO_exchange C.ok hE (sh_OO_1 hE g_h0) h) (fun I_4 h => ?_)
      refine j_aload_n C d_OO_swap_31 rfl 0 rfl ?_
      refine j_callVv (As := []) C jcl_OO cw_OO_111 w_306 ws_2 g_h0 rfl rfl (by decide) (by decide) (Nat.le_of_ble_eq_true rfl) d_OO_swap_32 (s_OO_orderChanged C.ok hE g_h0 h) (fun I_6 h => ?_)
      refine j_iconst C d_OO_swap_35 ic_1 ?_
      exact j_iret C hr d_OO_swap_36 h
    · have h := h.2 c13
      refine j_lv [0] rfl ?_
      exact k_OO_swap_16 C hr hE h0 I g_h0 h
