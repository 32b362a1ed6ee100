theorem d_OO_knownMinima_0 : decode prog_1_method_38_code 0 = .ok (.aload_n 0, 1) := by decide +kernel
theorem d_OO_knownMinima_1 : decode prog_1_method_38_code 1 = .ok (.getfield 276, 3) := by decide +kernel
theorem d_OO_knownMinima_4 : decode prog_1_method_38_code 4 = .ok (.ifCond .ne 19, 3) := by decide +kernel
theorem d_OO_knownMinima_7 : decode prog_1_method_38_code 7 = .ok (.aload_n 0, 1) := by decide +kernel
theorem d_OO_knownMinima_8 : decode prog_1_method_38_code 8 = .ok (.getfield 33, 3) := by decide +kernel
theorem d_OO_knownMinima_11 : decode prog_1_method_38_code 11 = .ok (.aload_n 0, 1) := by decide +kernel
theorem d_OO_knownMinima_12 : decode prog_1_method_38_code 12 = .ok (.getfield 12, 3) := by decide +kernel
theorem d_OO_knownMinima_15 : decode prog_1_method_38_code 15 = .ok (.invokevirtual 301, 3) := by decide +kernel
theorem d_OO_knownMinima_18 : decode prog_1_method_38_code 18 = .ok (.aload_n 0, 1) := by decide +kernel
theorem d_OO_knownMinima_19 : decode prog_1_method_38_code 19 = .ok (.iconst 1, 1) := by decide +kernel
theorem d_OO_knownMinima_20 : decode prog_1_method_38_code 20 = .ok (.putfield 276, 3) := by decide +kernel
theorem d_OO_knownMinima_23 : decode prog_1_method_38_code 23 = .ok (.aload_n 0, 1) := by decide +kernel
theorem d_OO_knownMinima_24 : decode prog_1_method_38_code 24 = .ok (.getfield 33, 3) := by decide +kernel
theorem d_OO_knownMinima_27 : decode prog_1_method_38_code 27 = .ok (.areturn, 1) := by decide +kernel
/-- OutOrder.knownMinima()LOutOrder$Least; -/
def OO_knownMinima (h0 : Nat) (I : jM) (K : Nat → jM → Prop) : Prop :=
  ((¬ (I h0 10) = 0 → K (jr h0 3) I) ∧ ((I h0 10) = 0 → LE_reckon (jr h0 3) (jr h0 0) I (fun I_2 => (∀ I_3 : jM, I_3 = jwr I_2 h0 10 (1 : Int32) → K (jr h0 3) I_3))))
set_option maxRecDepth 100000 in
set_option maxHeartbeats 4000000 in
theorem s_OO_knownMinima {l : Launch} {E : jE} (ok : jOK E) (hE : E.2.2.2 = jLX) {h0 : Nat} (g_h0 : jOB E 10 h0) {I : jM} {K : Nat → jM → Prop} (h : OO_knownMinima h0 I K) : jSr l E ⟨"OutOrder", "knownMinima", "()LOutOrder$Least;"⟩ prog_1_method_38_code 1 (some (.object "OutOrder$Least")) 3 75 [.ref (E.2.2.1 h0)] I K := by
  refine jS_ofF (own := "OutOrder") (by decide +kernel) rfl ok (Nat.le_of_ble_eq_true rfl) (fun Z _ C hr => ?_)
  show jJ Z E 1 (jQr Z E K) 0 [(0, .ref (E.2.2.1 h0))] [] I
  unfold OO_knownMinima at h
  refine j_aload_n C d_OO_knownMinima_0 rfl 0 rfl ?_
  refine fg_OO_276 C g_h0 d_OO_knownMinima_1 ?_
  refine j_if_ne C d_OO_knownMinima_4 (tgt := 23) (by decide) (fun c4 => ?_) (fun c4 => ?_)
  · have h := h.1 c4
    refine j_aload_n C d_OO_knownMinima_23 rfl 0 rfl ?_
    refine fg_OO_33 C g_h0 d_OO_knownMinima_24 ?_
    exact j_aret C hr d_OO_knownMinima_27 h
  · have h := h.2 c4
    refine j_aload_n C d_OO_knownMinima_7 rfl 0 rfl ?_
    refine fg_OO_33 C g_h0 d_OO_knownMinima_8 ?_
    refine j_aload_n C d_OO_knownMinima_11 rfl 0 rfl ?_
    refine fg_OO_12 C g_h0 d_OO_knownMinima_12 ?_
    refine j_callVv (As := [.ref (E.2.2.1 (jr h0 0))]) C jcl_LE cw_OO_301 w_423 w_424 (sh_OO_3 hE g_h0) rfl rfl (by decide) (by decide) (Nat.le_of_ble_eq_true rfl) d_OO_knownMinima_15 (s_LE_reckon C.ok hE (sh_OO_3 hE g_h0) (sh_OO_0 hE g_h0) h) (fun I_2 h => ?_)
    refine j_aload_n C d_OO_knownMinima_18 rfl 0 rfl ?_
    refine j_iconst C d_OO_knownMinima_19 ic_1 ?_
    refine fp_OO_276 C (by decide) (by decide) g_h0 d_OO_knownMinima_20 ?_
    have h := h _ rfl
    generalize eI_3 : (jwr I_2 h0 10 (1 : Int32) : jM) = I_3 at h ⊢
    refine j_aload_n C d_OO_knownMinima_23 rfl 0 rfl ?_
    refine fg_OO_33 C g_h0 d_OO_knownMinima_24 ?_
    exact j_aret C hr d_OO_knownMinima_27 h
theorem d_OO_arrange_0 : decode prog_1_method_36_code 0 = .ok (.iload_n 1, 1) := by decide +kernel
theorem d_OO_arrange_1 : decode prog_1_method_36_code 1 = .ok (.bipush 6, 2) := by decide +kernel
theorem d_OO_arrange_3 : decode prog_1_method_36_code 3 = .ok (.if_icmp .ne 13, 3) := by decide +kernel
theorem d_OO_arrange_6 : decode prog_1_method_36_code 6 = .ok (.aload_n 0, 1) := by decide +kernel
theorem d_OO_arrange_7 : decode prog_1_method_36_code 7 = .ok (.getfield 19, 3) := by decide +kernel
theorem d_OO_arrange_10 : decode prog_1_method_36_code 10 = .ok (.invokevirtual 286, 3) := by decide +kernel
theorem d_OO_arrange_13 : decode prog_1_method_36_code 13 = .ok (.goto 80, 3) := by decide +kernel
theorem d_OO_arrange_16 : decode prog_1_method_36_code 16 = .ok (.iload_n 1, 1) := by decide +kernel
theorem d_OO_arrange_17 : decode prog_1_method_36_code 17 = .ok (.iconst 3, 1) := by decide +kernel
theorem d_OO_arrange_18 : decode prog_1_method_36_code 18 = .ok (.if_icmp .ne 21, 3) := by decide +kernel
theorem d_OO_arrange_21 : decode prog_1_method_36_code 21 = .ok (.aload_n 0, 1) := by decide +kernel
theorem d_OO_arrange_22 : decode prog_1_method_36_code 22 = .ok (.getfield 26, 3) := by decide +kernel
theorem d_OO_arrange_25 : decode prog_1_method_36_code 25 = .ok (.aload_n 0, 1) := by decide +kernel
theorem d_OO_arrange_26 : decode prog_1_method_36_code 26 = .ok (.getfield 12, 3) := by decide +kernel
theorem d_OO_arrange_29 : decode prog_1_method_36_code 29 = .ok (.aload_n 0, 1) := by decide +kernel
theorem d_OO_arrange_30 : decode prog_1_method_36_code 30 = .ok (.getfield 19, 3) := by decide +kernel
theorem d_OO_arrange_33 : decode prog_1_method_36_code 33 = .ok (.invokevirtual 289, 3) := by decide +kernel
theorem d_OO_arrange_36 : decode prog_1_method_36_code 36 = .ok (.goto 57, 3) := by decide +kernel
theorem d_OO_arrange_39 : decode prog_1_method_36_code 39 = .ok (.iload_n 1, 1) := by decide +kernel
theorem d_OO_arrange_40 : decode prog_1_method_36_code 40 = .ok (.iconst 4, 1) := by decide +kernel
theorem d_OO_arrange_41 : decode prog_1_method_36_code 41 = .ok (.if_icmp .eq 8, 3) := by decide +kernel
theorem d_OO_arrange_44 : decode prog_1_method_36_code 44 = .ok (.iload_n 1, 1) := by decide +kernel
theorem d_OO_arrange_45 : decode prog_1_method_36_code 45 = .ok (.iconst 5, 1) := by decide +kernel
theorem d_OO_arrange_46 : decode prog_1_method_36_code 46 = .ok (.if_icmp .ne 31, 3) := by decide +kernel
theorem d_OO_arrange_49 : decode prog_1_method_36_code 49 = .ok (.aload_n 0, 1) := by decide +kernel
theorem d_OO_arrange_50 : decode prog_1_method_36_code 50 = .ok (.invokevirtual 168, 3) := by decide +kernel
theorem d_OO_arrange_53 : decode prog_1_method_36_code 53 = .ok (.aload_n 0, 1) := by decide +kernel
theorem d_OO_arrange_54 : decode prog_1_method_36_code 54 = .ok (.getfield 12, 3) := by decide +kernel
theorem d_OO_arrange_57 : decode prog_1_method_36_code 57 = .ok (.aload_n 0, 1) := by decide +kernel
theorem d_OO_arrange_58 : decode prog_1_method_36_code 58 = .ok (.getfield 19, 3) := by decide +kernel
theorem d_OO_arrange_61 : decode prog_1_method_36_code 61 = .ok (.iload_n 1, 1) := by decide +kernel
theorem d_OO_arrange_62 : decode prog_1_method_36_code 62 = .ok (.iconst 5, 1) := by decide +kernel
theorem d_OO_arrange_63 : decode prog_1_method_36_code 63 = .ok (.if_icmp .ne 7, 3) := by decide +kernel
theorem d_OO_arrange_66 : decode prog_1_method_36_code 66 = .ok (.iconst 1, 1) := by decide +kernel
theorem d_OO_arrange_67 : decode prog_1_method_36_code 67 = .ok (.goto 4, 3) := by decide +kernel
theorem d_OO_arrange_70 : decode prog_1_method_36_code 70 = .ok (.iconst 0, 1) := by decide +kernel
theorem d_OO_arrange_71 : decode prog_1_method_36_code 71 = .ok (.invokevirtual 292, 3) := by decide +kernel
theorem d_OO_arrange_74 : decode prog_1_method_36_code 74 = .ok (.goto 19, 3) := by decide +kernel
theorem d_OO_arrange_77 : decode prog_1_method_36_code 77 = .ok (.aload_n 0, 1) := by decide +kernel
theorem d_OO_arrange_78 : decode prog_1_method_36_code 78 = .ok (.getfield 26, 3) := by decide +kernel
theorem d_OO_arrange_81 : decode prog_1_method_36_code 81 = .ok (.iload_n 1, 1) := by decide +kernel
theorem d_OO_arrange_82 : decode prog_1_method_36_code 82 = .ok (.aload_n 0, 1) := by decide +kernel
theorem d_OO_arrange_83 : decode prog_1_method_36_code 83 = .ok (.getfield 12, 3) := by decide +kernel
theorem d_OO_arrange_86 : decode prog_1_method_36_code 86 = .ok (.aload_n 0, 1) := by decide +kernel
theorem d_OO_arrange_87 : decode prog_1_method_36_code 87 = .ok (.getfield 19, 3) := by decide +kernel
theorem d_OO_arrange_90 : decode prog_1_method_36_code 90 = .ok (.invokevirtual 296, 3) := by decide +kernel
theorem d_OO_arrange_93 : decode prog_1_method_36_code 93 = .ok (.return_, 1) := by decide +kernel
def OO_arrange_71 (r0 : Nat) (r1 : Nat) (r2 : Nat) (s3 : Int32) (I : jM) (K : jM → Prop) : Prop :=
  LE_walk r0 r1 r2 s3 I (fun I_2 => K I_2)
set_option maxRecDepth 100000 in
set_option maxHeartbeats 4000000 in
theorem k_OO_arrange_71 {Z : jZ} {E : jE} (C : jC Z E prog_1_method_36_code 2 "OutOrder" 5 117) (hr : (jZh Z).sig.returnType = none) (hE : E.2.2.2 = jLX)  (r0 : Nat) (r1 : Nat) (r2 : Nat) (s3 : Int32) (I : jM) (g_r0 : jOB E 2 r0) (g_r1 : jOB E 8 r1) (g_r2 : jOB E 6 r2) {K : jM → Prop} (h : OO_arrange_71 r0 r1 r2 s3 I K) : jJ Z E 2 (jQv Z E K) 71 [] [.int s3, .ref (E.2.2.1 r2), .ref (E.2.2.1 r1), .ref (E.2.2.1 r0)] I := by
  unfold OO_arrange_71 at h
  refine j_callVv (As := [.ref (E.2.2.1 r1), .ref (E.2.2.1 r2), .int s3]) C jcl_LE cw_OO_292 w_448 w_449 g_r0 rfl rfl (by decide) (by decide) (Nat.le_of_ble_eq_true rfl) d_OO_arrange_71 (s_LE_walk C.ok hE g_r0 g_r1 g_r2 h) (fun I_2 h => ?_)
  refine j_goto C d_OO_arrange_74 (tgt := 93) (by decide) ?_
  exact j_vret C hr d_OO_arrange_93 h
def OO_arrange_49 (h0 : Nat) (v1 : Int32) (I : jM) (K : jM → Prop) : Prop :=
  OO_knownMinima h0 I (fun r_1 I_2 => (r_1 ∈ jLX ∧ jk r_1 = 2 ∧ ((¬ v1 = (5 : Int32) → OO_arrange_71 r_1 (jr h0 0) (jr h0 1) (0 : Int32) I_2 K) ∧ (v1 = (5 : Int32) → OO_arrange_71 r_1 (jr h0 0) (jr h0 1) (1 : Int32) I_2 K))))
set_option maxRecDepth 100000 in
set_option maxHeartbeats 4000000 in
theorem k_OO_arrange_49 {Z : jZ} {E : jE} (C : jC Z E prog_1_method_36_code 2 "OutOrder" 5 117) (hr : (jZh Z).sig.returnType = none) (hE : E.2.2.2 = jLX)  (h0 : Nat) (v1 : Int32) (I : jM) (g_h0 : jOB E 10 h0) {K : jM → Prop} (h : OO_arrange_49 h0 v1 I K) : jJ Z E 2 (jQv Z E K) 49 [(0, .ref (E.2.2.1 h0)), (1, .int v1)] [] I := by
  unfold OO_arrange_49 at h
  refine j_aload_n C d_OO_arrange_49 rfl 0 rfl ?_
  refine j_callVr (As := []) C jcl_OO cw_OO_168 w_420 ws_6 g_h0 rfl rfl (by decide) (by decide) (Nat.le_of_ble_eq_true rfl) d_OO_arrange_50 (s_OO_knownMinima C.ok hE g_h0 h) (fun r_1 I_2 h => ?_)
  obtain ⟨q_3, q_4, h⟩ := h
  refine j_aload_n C d_OO_arrange_53 rfl 0 rfl ?_
  refine fg_OO_12 C g_h0 d_OO_arrange_54 ?_
  refine j_aload_n C d_OO_arrange_57 rfl 0 rfl ?_
  refine fg_OO_19 C g_h0 d_OO_arrange_58 ?_
  refine j_iload_n C d_OO_arrange_61 rfl 1 rfl ?_
  refine j_iconst C d_OO_arrange_62 ic_5 ?_
  refine j_icmp_ne C d_OO_arrange_63 (tgt := 70) (by decide) (fun c63 => ?_) (fun c63 => ?_)
  · have h := h.1 c63
    refine j_iconst C d_OO_arrange_70 ic_0 ?_
    refine j_lv [] rfl ?_
    exact k_OO_arrange_71 C hr hE r_1 (jr h0 0) (jr h0 1) (0 : Int32) I_2 (⟨hE ▸ q_3, q_4⟩ : jOB E 2 r_1) (sh_OO_0 hE g_h0) (sh_OO_1 hE g_h0) h
  · have h := h.2 c63
    refine j_iconst C d_OO_arrange_66 ic_1 ?_
    refine j_goto C d_OO_arrange_67 (tgt := 71) (by decide) ?_
    refine j_lv [] rfl ?_
    exact k_OO_arrange_71 C hr hE r_1 (jr h0 0) (jr h0 1) (1 : Int32) I_2 (⟨hE ▸ q_3, q_4⟩ : jOB E 2 r_1) (sh_OO_0 hE g_h0) (sh_OO_1 hE g_h0) h
/-- OutOrder.arrange(I)V -/
def OO_arrange (h0 : Nat) (v1 : Int32) (I : jM) (K : jM → Prop) : Prop :=
  ((¬ v1 = (6 : Int32) → ((¬ v1 = (3 : Int32) → ((v1 = (4 : Int32) → OO_arrange_49 h0 v1 I K) ∧ (¬ v1 = (4 : Int32) → ((¬ v1 = (5 : Int32) → RU_greedy (jr h0 2) v1 (jr h0 0) (jr h0 1) I (fun I_2 => K I_2)) ∧ (v1 = (5 : Int32) → OO_arrange_49 h0 v1 I K))))) ∧ (v1 = (3 : Int32) → RU_search (jr h0 2) (jr h0 0) (jr h0 1) I (fun I_4 => K I_4)))) ∧ (v1 = (6 : Int32) → RO_turn (jr h0 1) I (fun I_6 => K I_6)))
set_option maxRecDepth 100000 in
set_option maxHeartbeats 4000000 in
theorem s_OO_arrange {l : Launch} {E : jE} (ok : jOK E) (hE : E.2.2.2 = jLX) {h0 : Nat} {v1 : Int32} (g_h0 : jOB E 10 h0) {I : jM} {K : jM → Prop} (h : OO_arrange h0 v1 I K) : jSv l E ⟨"OutOrder", "arrange", "(I)V"⟩ prog_1_method_36_code 2 none 5 117 [.ref (E.2.2.1 h0), .int v1] I K := by
  refine jS_ofF (own := "OutOrder") (by decide +kernel) rfl ok (Nat.le_of_ble_eq_true rfl) (fun Z _ C hr => ?_)
  show jJ Z E 2 (jQv Z E K) 0 [(0, .ref (E.2.2.1 h0)), (1, .int v1)] [] I
  unfold OO_arrange at h
  refine j_iload_n C d_OO_arrange_0 rfl 1 rfl ?_
  refine j_bipush C d_OO_arrange_1 ib_6 ?_
  refine j_icmp_ne C d_OO_arrange_3 (tgt := 16) (by decide) (fun c3 => ?_) (fun c3 => ?_)
  · have h := h.1 c3
    refine j_iload_n C d_OO_arrange_16 rfl 1 rfl ?_
    refine j_iconst C d_OO_arrange_17 ic_3 ?_
    refine j_icmp_ne C d_OO_arrange_18 (tgt := 39) (by decide) (fun c18 => ?_) (fun c18 => ?_)
    · have h := h.1 c18
      refine j_iload_n C d_OO_arrange_39 rfl 1 rfl ?_
      refine j_iconst C d_OO_arrange_40 ic_4 ?_
      refine j_icmp_eq C d_OO_arrange_41 (tgt := 49) (by decide) (fun c41 => ?_) (fun c41 => ?_)
      · have h := h.1 c41
        refine j_lv [0, 1] rfl ?_
        exact k_OO_arrange_49 C hr hE h0 v1 I g_h0 h
      · have h := h.2 c41
        refine j_iload_n C d_OO_arrange_44 rfl 1 rfl ?_
        refine j_iconst C d_OO_arrange_45 ic_5 ?_
        refine j_icmp_ne C d_OO_arrange_46 (tgt := 77) (by decide) (fun c46 => ?_) (fun c46 => ?_)
        · have h := h.1 c46
          refine j_aload_n C d_OO_arrange_77 rfl 0 rfl ?_
          refine fg_OO_26 C g_h0 d_OO_arrange_78 ?_
          refine j_iload_n C d_OO_arrange_81 rfl 1 rfl ?_
          refine j_aload_n C d_OO_arrange_82 rfl 0 rfl ?_
          refine fg_OO_12 C g_h0 d_OO_arrange_83 ?_
          refine j_aload_n C d_OO_arrange_86 rfl 0 rfl ?_
          refine fg_OO_19 C g_h0 d_OO_arrange_87 ?_
          refine j_callVv (As := [.int v1, .ref (E.2.2.1 (jr h0 0)), .ref (E.2.2.1 (jr h0 1))]) C jcl_RU cw_OO_296 w_471 w_472 (sh_OO_2 hE g_h0) rfl rfl (by decide) (by decide) (Nat.le_of_ble_eq_true rfl) d_OO_arrange_90 (s_RU_greedy C.ok hE (sh_OO_2 hE g_h0) (sh_OO_0 hE g_h0) (sh_OO_1 hE g_h0) h) (fun I_2 h => ?_)
          exact j_vret C hr d_OO_arrange_93 h
        · have h := h.2 c46
          refine j_lv [0, 1] rfl ?_
          exact k_OO_arrange_49 C hr hE h0 v1 I g_h0 h
    · have h := h.2 c18
      refine j_aload_n C d_OO_arrange_21 rfl 0 rfl ?_
      refine fg_OO_26 C g_h0 d_OO_arrange_22 ?_
      refine j_aload_n C d_OO_arrange_25 rfl 0 rfl ?_
      refine fg_OO_12 C g_h0 d_OO_arrange_26 ?_
      refine j_aload_n C d_OO_arrange_29 rfl 0 rfl ?_
      refine fg_OO_19 C g_h0 d_OO_arrange_30 ?_
      refine j_callVv (As := [.ref (E.2.2.1 (jr h0 0)), .ref (E.2.2.1 (jr h0 1))]) C jcl_RU cw_OO_289 w_405 w_406 (sh_OO_2 hE g_h0) rfl rfl (by decide) (by decide) (Nat.le_of_ble_eq_true rfl) d_OO_arrange_33 (s_RU_search C.ok hE (sh_OO_2 hE g_h0) (sh_OO_0 hE g_h0) (sh_OO_1 hE g_h0) h) (fun I_4 h => ?_)
      refine j_goto C d_OO_arrange_36 (tgt := 93) (by decide) ?_
      exact j_vret C hr d_OO_arrange_93 h
  · have h := h.2 c3
    refine j_aload_n C d_OO_arrange_6 rfl 0 rfl ?_
    refine fg_OO_19 C g_h0 d_OO_arrange_7 ?_
    refine j_callVv (As := []) C jcl_RO cw_OO_286 w_397 w_398 (sh_OO_1 hE g_h0) rfl rfl (by decide) (by decide) (Nat.le_of_ble_eq_true rfl) d_OO_arrange_10 (s_RO_turn C.ok hE (sh_OO_1 hE g_h0) h) (fun I_6 h => ?_)
    refine j_goto C d_OO_arrange_13 (tgt := 93) (by decide) ?_
    exact j_vret C hr d_OO_arrange_93 h
theorem d_OO_isNobody_0 : decode prog_1_method_31_code 0 = .ok (.iload_n 1, 1) := by decide +kernel
theorem d_OO_isNobody_1 : decode prog_1_method_31_code 1 = .ok (.ifCond .lt 14, 3) := by decide +kernel
theorem d_OO_isNobody_4 : decode prog_1_method_31_code 4 = .ok (.iload_n 1, 1) := by decide +kernel
theorem d_OO_isNobody_5 : decode prog_1_method_31_code 5 = .ok (.aload_n 0, 1) := by decide +kernel
theorem d_OO_isNobody_6 : decode prog_1_method_31_code 6 = .ok (.getfield 12, 3) := by decide +kernel
theorem d_OO_isNobody_9 : decode prog_1_method_31_code 9 = .ok (.getfield 104, 3) := by decide +kernel
theorem d_OO_isNobody_12 : decode prog_1_method_31_code 12 = .ok (.if_icmp .lt 7, 3) := by decide +kernel
theorem d_OO_isNobody_15 : decode prog_1_method_31_code 15 = .ok (.iconst 1, 1) := by decide +kernel
theorem d_OO_isNobody_16 : decode prog_1_method_31_code 16 = .ok (.goto 4, 3) := by decide +kernel
theorem d_OO_isNobody_19 : decode prog_1_method_31_code 19 = .ok (.iconst 0, 1) := by decide +kernel
theorem d_OO_isNobody_20 : decode prog_1_method_31_code 20 = .ok (.ireturn, 1) := by decide +kernel
/-- OutOrder.isNobody(I)Z -/
def OO_isNobody (h0 : Nat) (v1 : Int32) (I : jM) (K : Int32 → Prop) : Prop :=
  ((v1 < 0 → K (1 : Int32)) ∧ (¬ v1 < 0 → ((v1 < (I (jr h0 0) 4) → K (0 : Int32)) ∧ (¬ v1 < (I (jr h0 0) 4) → K (1 : Int32)))))
set_option maxRecDepth 100000 in
set_option maxHeartbeats 4000000 in
theorem s_OO_isNobody {l : Launch} {E : jE} (ok : jOK E) (hE : E.2.2.2 = jLX) {h0 : Nat} {v1 : Int32} (g_h0 : jOB E 10 h0) {I : jM} {K : Int32 → Prop} (h : OO_isNobody h0 v1 I K) : jSi l E ⟨"OutOrder", "isNobody", "(I)Z"⟩ prog_1_method_31_code 2 (some .boolean) 0 0 [.ref (E.2.2.1 h0), .int v1] I (fun r I2 => I = I2 ∧ K r) := by
  refine jS_ofF (own := "OutOrder") (by decide +kernel) rfl ok (Nat.le_of_ble_eq_true rfl) (fun Z _ C hr => ?_)
  show jJ Z E 2 (jQi Z E (fun r I2 => I = I2 ∧ K r)) 0 [(0, .ref (E.2.2.1 h0)), (1, .int v1)] [] I
  unfold OO_isNobody at h
  refine j_iload_n C d_OO_isNobody_0 rfl 1 rfl ?_
  refine j_if_lt C d_OO_isNobody_1 (tgt := 15) (by decide) (fun c1 => ?_) (fun c1 => ?_)
  · have h := h.1 c1
    refine j_iconst C d_OO_isNobody_15 ic_1 ?_
    refine j_goto C d_OO_isNobody_16 (tgt := 20) (by decide) ?_
    exact j_zret C hr (by decide) d_OO_isNobody_20 ⟨rfl, h⟩
  · have h := h.2 c1
    refine j_iload_n C d_OO_isNobody_4 rfl 1 rfl ?_
    refine j_aload_n C d_OO_isNobody_5 rfl 0 rfl ?_
    refine fg_OO_12 C g_h0 d_OO_isNobody_6 ?_
    refine fg_OO_104 C (sh_OO_0 hE g_h0) d_OO_isNobody_9 ?_
    refine j_icmp_lt C d_OO_isNobody_12 (tgt := 19) (by decide) (fun c12 => ?_) (fun c12 => ?_)
    · have h := h.1 c12
      refine j_iconst C d_OO_isNobody_19 ic_0 ?_
      exact j_zret C hr (by decide) d_OO_isNobody_20 ⟨rfl, h⟩
    · have h := h.2 c12
      refine j_iconst C d_OO_isNobody_15 ic_1 ?_
      refine j_goto C d_OO_isNobody_16 (tgt := 20) (by decide) ?_
      exact j_zret C hr (by decide) d_OO_isNobody_20 ⟨rfl, h⟩
theorem d_OO_refuse_0 : decode prog_1_method_32_code 0 = .ok (.iload_n 1, 1) := by decide +kernel
theorem d_OO_refuse_1 : decode prog_1_method_32_code 1 = .ok (.ineg, 1) := by decide +kernel
theorem d_OO_refuse_2 : decode prog_1_method_32_code 2 = .ok (.istore_n 2, 1) := by decide +kernel
theorem d_OO_refuse_3 : decode prog_1_method_32_code 3 = .ok (.iload_n 2, 1) := by decide +kernel
theorem d_OO_refuse_4 : decode prog_1_method_32_code 4 = .ok (.ifCond .le 22, 3) := by decide +kernel
theorem d_OO_refuse_7 : decode prog_1_method_32_code 7 = .ok (.iload_n 2, 1) := by decide +kernel
theorem d_OO_refuse_8 : decode prog_1_method_32_code 8 = .ok (.aload_n 0, 1) := by decide +kernel
theorem d_OO_refuse_9 : decode prog_1_method_32_code 9 = .ok (.getfield 65, 3) := by decide +kernel
theorem d_OO_refuse_12 : decode prog_1_method_32_code 12 = .ok (.arraylength, 1) := by decide +kernel
theorem d_OO_refuse_13 : decode prog_1_method_32_code 13 = .ok (.if_icmp .ge 13, 3) := by decide +kernel
theorem d_OO_refuse_16 : decode prog_1_method_32_code 16 = .ok (.aload_n 0, 1) := by decide +kernel
theorem d_OO_refuse_17 : decode prog_1_method_32_code 17 = .ok (.getfield 65, 3) := by decide +kernel
theorem d_OO_refuse_20 : decode prog_1_method_32_code 20 = .ok (.iload_n 2, 1) := by decide +kernel
theorem d_OO_refuse_21 : decode prog_1_method_32_code 21 = .ok (.dup2, 1) := by decide +kernel
theorem d_OO_refuse_22 : decode prog_1_method_32_code 22 = .ok (.iaload, 1) := by decide +kernel
theorem d_OO_refuse_23 : decode prog_1_method_32_code 23 = .ok (.iconst 1, 1) := by decide +kernel
theorem d_OO_refuse_24 : decode prog_1_method_32_code 24 = .ok (.iadd, 1) := by decide +kernel
theorem d_OO_refuse_25 : decode prog_1_method_32_code 25 = .ok (.iastore, 1) := by decide +kernel
theorem d_OO_refuse_26 : decode prog_1_method_32_code 26 = .ok (.iload_n 1, 1) := by decide +kernel
theorem d_OO_refuse_27 : decode prog_1_method_32_code 27 = .ok (.ireturn, 1) := by decide +kernel
/-- OutOrder.refuse(I)I -/
def OO_refuse (h0 : Nat) (v1 : Int32) (I : jM) (K : Int32 → jM → Prop) : Prop :=
  (∀ v2_1 : Int32, v2_1 = (-v1) → ((v2_1 ≤ 0 → K v1 I) ∧ (¬ v2_1 ≤ 0 → (((7 : Int32) ≤ v2_1 → K v1 I) ∧ (¬ (7 : Int32) ≤ v2_1 → (vp_in v2_1 7 ∧ (vp_in v2_1 7 ∧ (∀ I_2 : jM, I_2 = jwr I (jr h0 8) v2_1.toNatClampNeg ((I (jr h0 8) v2_1.toNatClampNeg) + (1 : Int32)) → K v1 I_2))))))))
set_option maxRecDepth 100000 in
set_option maxHeartbeats 4000000 in
theorem s_OO_refuse {l : Launch} {E : jE} (ok : jOK E) (hE : E.2.2.2 = jLX) {h0 : Nat} {v1 : Int32} (g_h0 : jOB E 10 h0) {I : jM} {K : Int32 → jM → Prop} (h : OO_refuse h0 v1 I K) : jSi l E ⟨"OutOrder", "refuse", "(I)I"⟩ prog_1_method_32_code 3 (some .int) 0 0 [.ref (E.2.2.1 h0), .int v1] I K := by
  refine jS_ofF (own := "OutOrder") (by decide +kernel) rfl ok (Nat.le_of_ble_eq_true rfl) (fun Z _ C hr => ?_)
  show jJ Z E 3 (jQi Z E K) 0 [(0, .ref (E.2.2.1 h0)), (1, .int v1)] [] I
  unfold OO_refuse at h
  refine j_iload_n C d_OO_refuse_0 rfl 1 rfl ?_
  refine j_ineg C d_OO_refuse_1 ?_
  refine j_topi (fun v2_1 ev2_1 => ?_)
  have h := h v2_1 ev2_1
  refine j_istore_n C d_OO_refuse_2 rfl (by decide) (lv' := [(2, .int v2_1), (0, .ref (E.2.2.1 h0)), (1, .int v1)]) rfl ?_
  refine j_iload_n C d_OO_refuse_3 rfl 0 rfl ?_
  refine j_if_le C d_OO_refuse_4 (tgt := 26) (by decide) (fun c4 => ?_) (fun c4 => ?_)
  · have h := h.1 c4
    refine j_iload_n C d_OO_refuse_26 rfl 2 rfl ?_
    exact j_iret C hr d_OO_refuse_27 h
  · have h := h.2 c4
    refine j_iload_n C d_OO_refuse_7 rfl 0 rfl ?_
    refine j_aload_n C d_OO_refuse_8 rfl 1 rfl ?_
    refine fg_OO_65 C g_h0 d_OO_refuse_9 ?_
    refine j_alen C (sh_OO_8 hE g_h0) (v := (7 : Int32)) (by decide) d_OO_refuse_12 ?_
    refine j_icmp_ge C d_OO_refuse_13 (tgt := 26) (by decide) (fun c13 => ?_) (fun c13 => ?_)
    · have h := h.1 c13
      refine j_iload_n C d_OO_refuse_26 rfl 2 rfl ?_
      exact j_iret C hr d_OO_refuse_27 h
    · have h := h.2 c13
      refine j_aload_n C d_OO_refuse_16 rfl 1 rfl ?_
      refine fg_OO_65 C g_h0 d_OO_refuse_17 ?_
      refine j_iload_n C d_OO_refuse_20 rfl 0 rfl ?_
      refine j_dup2 C d_OO_refuse_21 rfl rfl ?_
      obtain ⟨hi, h⟩ := h
      refine j_iaload C (sh_OO_8 hE g_h0) hi d_OO_refuse_22 ?_
      refine j_iconst C d_OO_refuse_23 ic_1 ?_
      refine j_iadd C d_OO_refuse_24 ?_
      obtain ⟨hi, h⟩ := h
      refine j_iastore C (sh_OO_8 hE g_h0) hi d_OO_refuse_25 ?_
      have h := h _ rfl
      generalize eI_2 : (jwr I (jr h0 8) v2_1.toNatClampNeg ((I (jr h0 8) v2_1.toNatClampNeg) + (1 : Int32)) : jM) = I_2 at h ⊢
      refine j_iload_n C d_OO_refuse_26 rfl 2 rfl ?_
      exact j_iret C hr d_OO_refuse_27 h
theorem d_OO_at_0 : decode prog_1_method_8_code 0 = .ok (.aload_n 0, 1) := by decide +kernel
theorem d_OO_at_1 : decode prog_1_method_8_code 1 = .ok (.iload_n 1, 1) := by decide +kernel
theorem d_OO_at_2 : decode prog_1_method_8_code 2 = .ok (.invokevirtual 83, 3) := by decide +kernel
theorem d_OO_at_5 : decode prog_1_method_8_code 5 = .ok (.ifCond .eq 11, 3) := by decide +kernel
theorem d_OO_at_8 : decode prog_1_method_8_code 8 = .ok (.aload_n 0, 1) := by decide +kernel
theorem d_OO_at_9 : decode prog_1_method_8_code 9 = .ok (.iconst (-1), 1) := by decide +kernel
theorem d_OO_at_10 : decode prog_1_method_8_code 10 = .ok (.invokevirtual 73, 3) := by decide +kernel
theorem d_OO_at_13 : decode prog_1_method_8_code 13 = .ok (.goto 12, 3) := by decide +kernel
theorem d_OO_at_16 : decode prog_1_method_8_code 16 = .ok (.aload_n 0, 1) := by decide +kernel
theorem d_OO_at_17 : decode prog_1_method_8_code 17 = .ok (.getfield 19, 3) := by decide +kernel
theorem d_OO_at_20 : decode prog_1_method_8_code 20 = .ok (.getfield 124, 3) := by decide +kernel
theorem d_OO_at_23 : decode prog_1_method_8_code 23 = .ok (.iload_n 1, 1) := by decide +kernel
theorem d_OO_at_24 : decode prog_1_method_8_code 24 = .ok (.iaload, 1) := by decide +kernel
theorem d_OO_at_25 : decode prog_1_method_8_code 25 = .ok (.ireturn, 1) := by decide +kernel
/-- OutOrder.at(I)I -/
def OO_at (h0 : Nat) (v1 : Int32) (I : jM) (K : Int32 → jM → Prop) : Prop :=
  OO_isNobody h0 v1 I (fun r_1 => ((r_1 = 0 → (vp_in v1 24 ∧ K (I (jr (jr h0 1) 0) v1.toNatClampNeg) I)) ∧ (¬ r_1 = 0 → OO_refuse h0 (-1 : Int32) I (fun r_2 I_3 => K r_2 I_3))))
set_option maxRecDepth 100000 in
set_option maxHeartbeats 4000000 in
theorem s_OO_at {l : Launch} {E : jE} (ok : jOK E) (hE : E.2.2.2 = jLX) {h0 : Nat} {v1 : Int32} (g_h0 : jOB E 10 h0) {I : jM} {K : Int32 → jM → Prop} (h : OO_at h0 v1 I K) : jSi l E ⟨"OutOrder", "at", "(I)I"⟩ prog_1_method_8_code 2 (some .int) 1 22 [.ref (E.2.2.1 h0), .int v1] I K := by
  refine jS_ofF (own := "OutOrder") (by decide +kernel) rfl ok (Nat.le_of_ble_eq_true rfl) (fun Z _ C hr => ?_)
  show jJ Z E 2 (jQi Z E K) 0 [(0, .ref (E.2.2.1 h0)), (1, .int v1)] [] I
  unfold OO_at at h
  refine j_aload_n C d_OO_at_0 rfl 0 rfl ?_
  refine j_iload_n C d_OO_at_1 rfl 1 rfl ?_
  refine j_callVi (As := [.int v1]) C jcl_OO cw_OO_83 w_363 ws_4 g_h0 rfl rfl (by decide) (by decide) (Nat.le_of_ble_eq_true rfl) d_OO_at_2 (s_OO_isNobody C.ok hE g_h0 h) (fun r_1 I2 h => ?_)
  obtain ⟨rfl, h⟩ := h
  refine j_if_eq C d_OO_at_5 (tgt := 16) (by decide) (fun c5 => ?_) (fun c5 => ?_)
  · have h := h.1 c5
    refine j_aload_n C d_OO_at_16 rfl 0 rfl ?_
    refine fg_OO_19 C g_h0 d_OO_at_17 ?_
    refine fg_OO_124 C (sh_OO_1 hE g_h0) d_OO_at_20 ?_
    refine j_iload_n C d_OO_at_23 rfl 1 rfl ?_
    obtain ⟨hi, h⟩ := h
    refine j_iaload C (sh_RO_0 hE (sh_OO_1 hE g_h0)) hi d_OO_at_24 ?_
    exact j_iret C hr d_OO_at_25 h
  · have h := h.2 c5
    refine j_aload_n C d_OO_at_8 rfl 0 rfl ?_
    refine j_iconst C d_OO_at_9 ic_m1 ?_
    refine j_callVi (As := [.int (-1 : Int32)]) C jcl_OO cw_OO_73 w_352 ws_3 g_h0 rfl rfl (by decide) (by decide) (Nat.le_of_ble_eq_true rfl) d_OO_at_10 (s_OO_refuse C.ok hE g_h0 h) (fun r_2 I_3 h => ?_)
    refine j_goto C d_OO_at_13 (tgt := 25) (by decide) ?_
    exact j_iret C hr d_OO_at_25 h
theorem d_OO_back_0 : decode prog_1_method_20_code 0 = .ok (.aload_n 0, 1) := by decide +kernel
theorem d_OO_back_1 : decode prog_1_method_20_code 1 = .ok (.getfield 47, 3) := by decide +kernel
theorem d_OO_back_4 : decode prog_1_method_20_code 4 = .ok (.aload_n 0, 1) := by decide +kernel
theorem d_OO_back_5 : decode prog_1_method_20_code 5 = .ok (.getfield 12, 3) := by decide +kernel
theorem d_OO_back_8 : decode prog_1_method_20_code 8 = .ok (.invokevirtual 207, 3) := by decide +kernel
theorem d_OO_back_11 : decode prog_1_method_20_code 11 = .ok (.ireturn, 1) := by decide +kernel
/-- OutOrder.back()I -/
def OO_back (h0 : Nat) (I : jM) (K : Int32 → jM → Prop) : Prop :=
  GO_undo (jr h0 5) (jr h0 0) I (fun r_1 I_2 => K r_1 I_2)
set_option maxRecDepth 100000 in
set_option maxHeartbeats 4000000 in
theorem s_OO_back {l : Launch} {E : jE} (ok : jOK E) (hE : E.2.2.2 = jLX) {h0 : Nat} (g_h0 : jOB E 10 h0) {I : jM} {K : Int32 → jM → Prop} (h : OO_back h0 I K) : jSi l E ⟨"OutOrder", "back", "()I"⟩ prog_1_method_20_code 1 (some .int) 3 69 [.ref (E.2.2.1 h0)] I K := by
  refine jS_ofF (own := "OutOrder") (by decide +kernel) rfl ok (Nat.le_of_ble_eq_true rfl) (fun Z _ C hr => ?_)
  show jJ Z E 1 (jQi Z E K) 0 [(0, .ref (E.2.2.1 h0))] [] I
  unfold OO_back at h
  refine j_aload_n C d_OO_back_0 rfl 0 rfl ?_
  refine fg_OO_47 C g_h0 d_OO_back_1 ?_
  refine j_aload_n C d_OO_back_4 rfl 0 rfl ?_
  refine fg_OO_12 C g_h0 d_OO_back_5 ?_
  refine j_callVi (As := [.ref (E.2.2.1 (jr h0 0))]) C jcl_GO cw_OO_207 w_613 w_614 (sh_OO_5 hE g_h0) rfl rfl (by decide) (by decide) (Nat.le_of_ble_eq_true rfl) d_OO_back_8 (s_GO_undo C.ok hE (sh_OO_5 hE g_h0) (sh_OO_0 hE g_h0) h) (fun r_1 I_2 h => ?_)
  exact j_iret C hr d_OO_back_11 h
theorem d_OO_begin_0 : decode prog_1_method_17_code 0 = .ok (.aload_n 0, 1) := by decide +kernel
theorem d_OO_begin_1 : decode prog_1_method_17_code 1 = .ok (.getfield 47, 3) := by decide +kernel
theorem d_OO_begin_4 : decode prog_1_method_17_code 4 = .ok (.aload_n 0, 1) := by decide +kernel
theorem d_OO_begin_5 : decode prog_1_method_17_code 5 = .ok (.getfield 12, 3) := by decide +kernel
theorem d_OO_begin_8 : decode prog_1_method_17_code 8 = .ok (.invokevirtual 181, 3) := by decide +kernel
theorem d_OO_begin_11 : decode prog_1_method_17_code 11 = .ok (.aload_n 0, 1) := by decide +kernel
theorem d_OO_begin_12 : decode prog_1_method_17_code 12 = .ok (.getfield 12, 3) := by decide +kernel
theorem d_OO_begin_15 : decode prog_1_method_17_code 15 = .ok (.getfield 104, 3) := by decide +kernel
theorem d_OO_begin_18 : decode prog_1_method_17_code 18 = .ok (.ireturn, 1) := by decide +kernel
/-- OutOrder.begin()I -/
def OO_begin (h0 : Nat) (I : jM) (K : Int32 → jM → Prop) : Prop :=
  GO_restart (jr h0 5) (jr h0 0) I (fun I_2 => K (I_2 (jr h0 0) 4) I_2)
set_option maxRecDepth 100000 in
set_option maxHeartbeats 4000000 in
theorem s_OO_begin {l : Launch} {E : jE} (ok : jOK E) (hE : E.2.2.2 = jLX) {h0 : Nat} (g_h0 : jOB E 10 h0) {I : jM} {K : Int32 → jM → Prop} (h : OO_begin h0 I K) : jSi l E ⟨"OutOrder", "begin", "()I"⟩ prog_1_method_17_code 1 (some .int) 2 43 [.ref (E.2.2.1 h0)] I K := by
  refine jS_ofF (own := "OutOrder") (by decide +kernel) rfl ok (Nat.le_of_ble_eq_true rfl) (fun Z _ C hr => ?_)
  show jJ Z E 1 (jQi Z E K) 0 [(0, .ref (E.2.2.1 h0))] [] I
  unfold OO_begin at h
  refine j_aload_n C d_OO_begin_0 rfl 0 rfl ?_
  refine fg_OO_47 C g_h0 d_OO_begin_1 ?_
  refine j_aload_n C d_OO_begin_4 rfl 0 rfl ?_
  refine fg_OO_12 C g_h0 d_OO_begin_5 ?_
  refine j_callVv (As := [.ref (E.2.2.1 (jr h0 0))]) C jcl_GO cw_OO_181 w_297 w_298 (sh_OO_5 hE g_h0) rfl rfl (by decide) (by decide) (Nat.le_of_ble_eq_true rfl) d_OO_begin_8 (s_GO_restart C.ok hE (sh_OO_5 hE g_h0) (sh_OO_0 hE g_h0) h) (fun I_2 h => ?_)
  refine j_aload_n C d_OO_begin_11 rfl 0 rfl ?_
  refine fg_OO_12 C g_h0 d_OO_begin_12 ?_
  refine fg_OO_104 C (sh_OO_0 hE g_h0) d_OO_begin_15 ?_
  exact j_iret C hr d_OO_begin_18 h
theorem d_OO_fullNet_0 : decode prog_1_method_37_code 0 = .ok (.aload_n 0, 1) := by decide +kernel
theorem d_OO_fullNet_1 : decode prog_1_method_37_code 1 = .ok (.getfield 280, 3) := by decide +kernel
theorem d_OO_fullNet_4 : decode prog_1_method_37_code 4 = .ok (.ifCond .ne 23, 3) := by decide +kernel
theorem d_OO_fullNet_7 : decode prog_1_method_37_code 7 = .ok (.aload_n 0, 1) := by decide +kernel
theorem d_OO_fullNet_8 : decode prog_1_method_37_code 8 = .ok (.getfield 40, 3) := by decide +kernel
theorem d_OO_fullNet_11 : decode prog_1_method_37_code 11 = .ok (.aload_n 0, 1) := by decide +kernel
theorem d_OO_fullNet_12 : decode prog_1_method_37_code 12 = .ok (.getfield 12, 3) := by decide +kernel
theorem d_OO_fullNet_15 : decode prog_1_method_37_code 15 = .ok (.aload_n 0, 1) := by decide +kernel
theorem d_OO_fullNet_16 : decode prog_1_method_37_code 16 = .ok (.getfield 19, 3) := by decide +kernel
theorem d_OO_fullNet_19 : decode prog_1_method_37_code 19 = .ok (.invokevirtual 300, 3) := by decide +kernel
theorem d_OO_fullNet_22 : decode prog_1_method_37_code 22 = .ok (.aload_n 0, 1) := by decide +kernel
theorem d_OO_fullNet_23 : decode prog_1_method_37_code 23 = .ok (.iconst 1, 1) := by decide +kernel
theorem d_OO_fullNet_24 : decode prog_1_method_37_code 24 = .ok (.putfield 280, 3) := by decide +kernel
theorem d_OO_fullNet_27 : decode prog_1_method_37_code 27 = .ok (.aload_n 0, 1) := by decide +kernel
theorem d_OO_fullNet_28 : decode prog_1_method_37_code 28 = .ok (.getfield 40, 3) := by decide +kernel
theorem d_OO_fullNet_31 : decode prog_1_method_37_code 31 = .ok (.areturn, 1) := by decide +kernel
/-- OutOrder.fullNet()LOutOrder$FullNet; -/
def OO_fullNet (h0 : Nat) (I : jM) (K : Nat → jM → Prop) : Prop :=
  ((¬ (I h0 9) = 0 → K (jr h0 4) I) ∧ ((I h0 9) = 0 → FN_reckon (jr h0 4) (jr h0 0) (jr h0 1) I (fun I_2 => (∀ I_3 : jM, I_3 = jwr I_2 h0 9 (1 : Int32) → K (jr h0 4) I_3))))
set_option maxRecDepth 100000 in
set_option maxHeartbeats 4000000 in
theorem s_OO_fullNet {l : Launch} {E : jE} (ok : jOK E) (hE : E.2.2.2 = jLX) {h0 : Nat} (g_h0 : jOB E 10 h0) {I : jM} {K : Nat → jM → Prop} (h : OO_fullNet h0 I K) : jSr l E ⟨"OutOrder", "fullNet", "()LOutOrder$FullNet;"⟩ prog_1_method_37_code 1 (some (.object "OutOrder$FullNet")) 3 71 [.ref (E.2.2.1 h0)] I K := by
  refine jS_ofF (own := "OutOrder") (by decide +kernel) rfl ok (Nat.le_of_ble_eq_true rfl) (fun Z _ C hr => ?_)
  show jJ Z E 1 (jQr Z E K) 0 [(0, .ref (E.2.2.1 h0))] [] I
  unfold OO_fullNet at h
  refine j_aload_n C d_OO_fullNet_0 rfl 0 rfl ?_
  refine fg_OO_280 C g_h0 d_OO_fullNet_1 ?_
  refine j_if_ne C d_OO_fullNet_4 (tgt := 27) (by decide) (fun c4 => ?_) (fun c4 => ?_)
  · have h := h.1 c4
    refine j_aload_n C d_OO_fullNet_27 rfl 0 rfl ?_
    refine fg_OO_40 C g_h0 d_OO_fullNet_28 ?_
    exact j_aret C hr d_OO_fullNet_31 h
  · have h := h.2 c4
    refine j_aload_n C d_OO_fullNet_7 rfl 0 rfl ?_
    refine fg_OO_40 C g_h0 d_OO_fullNet_8 ?_
    refine j_aload_n C d_OO_fullNet_11 rfl 0 rfl ?_
    refine fg_OO_12 C g_h0 d_OO_fullNet_12 ?_
    refine j_aload_n C d_OO_fullNet_15 rfl 0 rfl ?_
    refine fg_OO_19 C g_h0 d_OO_fullNet_16 ?_
    refine j_callVv (As := [.ref (E.2.2.1 (jr h0 0)), .ref (E.2.2.1 (jr h0 1))]) C jcl_FN cw_OO_300 w_494 w_495 (sh_OO_4 hE g_h0) rfl rfl (by decide) (by decide) (Nat.le_of_ble_eq_true rfl) d_OO_fullNet_19 (s_FN_reckon C.ok hE (sh_OO_4 hE g_h0) (sh_OO_0 hE g_h0) (sh_OO_1 hE g_h0) h) (fun I_2 h => ?_)
    refine j_aload_n C d_OO_fullNet_22 rfl 0 rfl ?_
    refine j_iconst C d_OO_fullNet_23 ic_1 ?_
    refine fp_OO_280 C (by decide) (by decide) g_h0 d_OO_fullNet_24 ?_
    have h := h _ rfl
    generalize eI_3 : (jwr I_2 h0 9 (1 : Int32) : jM) = I_3 at h ⊢
    refine j_aload_n C d_OO_fullNet_27 rfl 0 rfl ?_
    refine fg_OO_40 C g_h0 d_OO_fullNet_28 ?_
    exact j_aret C hr d_OO_fullNet_31 h
theorem d_OO_column_0 : decode prog_1_method_11_code 0 = .ok (.aload_n 0, 1) := by decide +kernel
theorem d_OO_column_1 : decode prog_1_method_11_code 1 = .ok (.iload_n 1, 1) := by decide +kernel
theorem d_OO_column_2 : decode prog_1_method_11_code 2 = .ok (.invokevirtual 83, 3) := by decide +kernel
theorem d_OO_column_5 : decode prog_1_method_11_code 5 = .ok (.ifCond .eq 9, 3) := by decide +kernel
theorem d_OO_column_8 : decode prog_1_method_11_code 8 = .ok (.aload_n 0, 1) := by decide +kernel
theorem d_OO_column_9 : decode prog_1_method_11_code 9 = .ok (.iconst (-1), 1) := by decide +kernel
theorem d_OO_column_10 : decode prog_1_method_11_code 10 = .ok (.invokevirtual 73, 3) := by decide +kernel
theorem d_OO_column_13 : decode prog_1_method_11_code 13 = .ok (.ireturn, 1) := by decide +kernel
theorem d_OO_column_14 : decode prog_1_method_11_code 14 = .ok (.aload_n 0, 1) := by decide +kernel
theorem d_OO_column_15 : decode prog_1_method_11_code 15 = .ok (.invokevirtual 114, 3) := by decide +kernel
theorem d_OO_column_18 : decode prog_1_method_11_code 18 = .ok (.astore_n 3, 1) := by decide +kernel
theorem d_OO_column_19 : decode prog_1_method_11_code 19 = .ok (.iload_n 2, 1) := by decide +kernel
theorem d_OO_column_20 : decode prog_1_method_11_code 20 = .ok (.tableswitch 91 0 5 #[40, 50, 60, 67, 74, 81], 40) := by decide +kernel
theorem d_OO_column_60 : decode prog_1_method_11_code 60 = .ok (.aload_n 0, 1) := by decide +kernel
theorem d_OO_column_61 : decode prog_1_method_11_code 61 = .ok (.getfield 19, 3) := by decide +kernel
theorem d_OO_column_64 : decode prog_1_method_11_code 64 = .ok (.getfield 130, 3) := by decide +kernel
theorem d_OO_column_67 : decode prog_1_method_11_code 67 = .ok (.iload_n 1, 1) := by decide +kernel
theorem d_OO_column_68 : decode prog_1_method_11_code 68 = .ok (.iaload, 1) := by decide +kernel
theorem d_OO_column_69 : decode prog_1_method_11_code 69 = .ok (.ireturn, 1) := by decide +kernel
theorem d_OO_column_70 : decode prog_1_method_11_code 70 = .ok (.aload_n 3, 1) := by decide +kernel
theorem d_OO_column_71 : decode prog_1_method_11_code 71 = .ok (.getfield 133, 3) := by decide +kernel
theorem d_OO_column_74 : decode prog_1_method_11_code 74 = .ok (.iload_n 1, 1) := by decide +kernel
theorem d_OO_column_75 : decode prog_1_method_11_code 75 = .ok (.iaload, 1) := by decide +kernel
theorem d_OO_column_76 : decode prog_1_method_11_code 76 = .ok (.invokestatic 136, 3) := by decide +kernel
theorem d_OO_column_79 : decode prog_1_method_11_code 79 = .ok (.ireturn, 1) := by decide +kernel
theorem d_OO_column_80 : decode prog_1_method_11_code 80 = .ok (.aload_n 3, 1) := by decide +kernel
theorem d_OO_column_81 : decode prog_1_method_11_code 81 = .ok (.getfield 141, 3) := by decide +kernel
theorem d_OO_column_84 : decode prog_1_method_11_code 84 = .ok (.iload_n 1, 1) := by decide +kernel
theorem d_OO_column_85 : decode prog_1_method_11_code 85 = .ok (.iaload, 1) := by decide +kernel
theorem d_OO_column_86 : decode prog_1_method_11_code 86 = .ok (.ireturn, 1) := by decide +kernel
theorem d_OO_column_87 : decode prog_1_method_11_code 87 = .ok (.aload_n 3, 1) := by decide +kernel
theorem d_OO_column_88 : decode prog_1_method_11_code 88 = .ok (.getfield 133, 3) := by decide +kernel
theorem d_OO_column_91 : decode prog_1_method_11_code 91 = .ok (.iload_n 1, 1) := by decide +kernel
theorem d_OO_column_92 : decode prog_1_method_11_code 92 = .ok (.iaload, 1) := by decide +kernel
theorem d_OO_column_93 : decode prog_1_method_11_code 93 = .ok (.ireturn, 1) := by decide +kernel
theorem d_OO_column_94 : decode prog_1_method_11_code 94 = .ok (.aload_n 3, 1) := by decide +kernel
theorem d_OO_column_95 : decode prog_1_method_11_code 95 = .ok (.getfield 144, 3) := by decide +kernel
theorem d_OO_column_98 : decode prog_1_method_11_code 98 = .ok (.iload_n 1, 1) := by decide +kernel
theorem d_OO_column_99 : decode prog_1_method_11_code 99 = .ok (.iaload, 1) := by decide +kernel
theorem d_OO_column_100 : decode prog_1_method_11_code 100 = .ok (.ireturn, 1) := by decide +kernel
theorem d_OO_column_101 : decode prog_1_method_11_code 101 = .ok (.aload_n 3, 1) := by decide +kernel
theorem d_OO_column_102 : decode prog_1_method_11_code 102 = .ok (.getfield 147, 3) := by decide +kernel
theorem d_OO_column_105 : decode prog_1_method_11_code 105 = .ok (.iload_n 1, 1) := by decide +kernel
theorem d_OO_column_106 : decode prog_1_method_11_code 106 = .ok (.iaload, 1) := by decide +kernel
theorem d_OO_column_107 : decode prog_1_method_11_code 107 = .ok (.invokestatic 136, 3) := by decide +kernel
theorem d_OO_column_110 : decode prog_1_method_11_code 110 = .ok (.ireturn, 1) := by decide +kernel
theorem d_OO_column_111 : decode prog_1_method_11_code 111 = .ok (.bipush (-9), 2) := by decide +kernel
theorem d_OO_column_113 : decode prog_1_method_11_code 113 = .ok (.ireturn, 1) := by decide +kernel
/-- OutOrder.column(II)I -/
def OO_column (h0 : Nat) (v1 : Int32) (v2 : Int32) (I : jM) (K : Int32 → jM → Prop) : Prop :=
  OO_isNobody h0 v1 I (fun r_1 => ((r_1 = 0 → OO_fullNet h0 I (fun r_2 I_3 => (r_2 ∈ jLX ∧ jk r_2 = 0 ∧ ((v2 = 0 → (vp_in v1 24 ∧ K (I_3 (jr (jr h0 1) 1) v1.toNatClampNeg) I_3)) ∧ (v2 = 1 → (vp_in v1 24 ∧ JI_bitCount (I_3 (jr r_2 2) v1.toNatClampNeg) I_3 (fun r_6 => K r_6 I_3))) ∧ (v2 = 2 → (vp_in v1 24 ∧ K (I_3 (jr r_2 3) v1.toNatClampNeg) I_3)) ∧ (v2 = 3 → (vp_in v1 24 ∧ K (I_3 (jr r_2 2) v1.toNatClampNeg) I_3)) ∧ (v2 = 4 → (vp_in v1 24 ∧ K (I_3 (jr r_2 4) v1.toNatClampNeg) I_3)) ∧ (v2 = 5 → (vp_in v1 24 ∧ JI_bitCount (I_3 (jr r_2 5) v1.toNatClampNeg) I_3 (fun r_7 => K r_7 I_3))) ∧ (¬ v2 = 0 → ¬ v2 = 1 → ¬ v2 = 2 → ¬ v2 = 3 → ¬ v2 = 4 → ¬ v2 = 5 → K (-9 : Int32) I_3))))) ∧ (¬ r_1 = 0 → OO_refuse h0 (-1 : Int32) I (fun r_8 I_9 => K r_8 I_9))))
set_option maxRecDepth 100000 in
set_option maxHeartbeats 4000000 in
theorem s_OO_column {l : Launch} {E : jE} (ok : jOK E) (hE : E.2.2.2 = jLX) {h0 : Nat} {v1 : Int32} {v2 : Int32} (g_h0 : jOB E 10 h0) {I : jM} {K : Int32 → jM → Prop} (h : OO_column h0 v1 v2 I K) : jSi l E ⟨"OutOrder", "column", "(II)I"⟩ prog_1_method_11_code 4 (some .int) 4 91 [.ref (E.2.2.1 h0), .int v1, .int v2] I K := by
  refine jS_ofF (own := "OutOrder") (by decide +kernel) rfl ok (Nat.le_of_ble_eq_true rfl) (fun Z _ C hr => ?_)
  show jJ Z E 4 (jQi Z E K) 0 [(0, .ref (E.2.2.1 h0)), (1, .int v1), (2, .int v2)] [] I
  unfold OO_column at h
  refine j_aload_n C d_OO_column_0 rfl 0 rfl ?_
  refine j_iload_n C d_OO_column_1 rfl 1 rfl ?_
  refine j_callVi (As := [.int v1]) C jcl_OO cw_OO_83 w_363 ws_4 g_h0 rfl rfl (by decide) (by decide) (Nat.le_of_ble_eq_true rfl) d_OO_column_2 (s_OO_isNobody C.ok hE g_h0 h) (fun r_1 I2 h => ?_)
  obtain ⟨rfl, h⟩ := h
  refine j_if_eq C d_OO_column_5 (tgt := 14) (by decide) (fun c5 => ?_) (fun c5 => ?_)
  · have h := h.1 c5
    refine j_aload_n C d_OO_column_14 rfl 0 rfl ?_
    refine j_callVr (As := []) C jcl_OO cw_OO_114 w_491 ws_13 g_h0 rfl rfl (by decide) (by decide) (Nat.le_of_ble_eq_true rfl) d_OO_column_15 (s_OO_fullNet C.ok hE g_h0 h) (fun r_2 I_3 h => ?_)
    obtain ⟨q_4, q_5, h⟩ := h
    refine j_astore_n C d_OO_column_18 rfl (by decide) (lv' := [(3, .ref (E.2.2.1 r_2)), (0, .ref (E.2.2.1 h0)), (1, .int v1), (2, .int v2)]) rfl ?_
    refine j_iload_n C d_OO_column_19 rfl 3 rfl ?_
    by_cases c20_0 : v2 = 0
    · have h := h.1 c20_0
      refine j_tableIn C d_OO_column_20 (off := 40) (tgt := 60) (by rw [c20_0]; decide) (by rw [c20_0]; decide) (by rw [c20_0]; rfl) (by decide) ?_
      refine j_aload_n C d_OO_column_60 rfl 1 rfl ?_
      refine fg_OO_19 C g_h0 d_OO_column_61 ?_
      refine fg_OO_130 C (sh_OO_1 hE g_h0) d_OO_column_64 ?_
      refine j_iload_n C d_OO_column_67 rfl 2 rfl ?_
      obtain ⟨hi, h⟩ := h
      refine j_iaload C (sh_RO_1 hE (sh_OO_1 hE g_h0)) hi d_OO_column_68 ?_
      exact j_iret C hr d_OO_column_69 h
    by_cases c20_1 : v2 = 1
    · have h := h.2.1 c20_1
      refine j_tableIn C d_OO_column_20 (off := 50) (tgt := 70) (by rw [c20_1]; decide) (by rw [c20_1]; decide) (by rw [c20_1]; rfl) (by decide) ?_
      refine j_aload_n C d_OO_column_70 rfl 0 rfl ?_
      refine fg_OO_133 C (⟨hE ▸ q_4, q_5⟩ : jOB E 0 r_2) d_OO_column_71 ?_
      refine j_iload_n C d_OO_column_74 rfl 2 rfl ?_
      obtain ⟨hi, h⟩ := h
      refine j_iaload C (sh_FN_2 hE (⟨hE ▸ q_4, q_5⟩ : jOB E 0 r_2)) hi d_OO_column_75 ?_
      refine j_callSi (As := [.int (I_3 (jr r_2 2) v1.toNatClampNeg)]) C cw_OO_136 w_412 rfl rfl (by decide) (by decide) (Nat.le_of_ble_eq_true rfl) d_OO_column_76 (s_JI_bitCount C.ok  h) (fun r_6 I2 h => ?_)
      obtain ⟨rfl, h⟩ := h
      exact j_iret C hr d_OO_column_79 h
    by_cases c20_2 : v2 = 2
    · have h := h.2.2.1 c20_2
      refine j_tableIn C d_OO_column_20 (off := 60) (tgt := 80) (by rw [c20_2]; decide) (by rw [c20_2]; decide) (by rw [c20_2]; rfl) (by decide) ?_
      refine j_aload_n C d_OO_column_80 rfl 0 rfl ?_
      refine fg_OO_141 C (⟨hE ▸ q_4, q_5⟩ : jOB E 0 r_2) d_OO_column_81 ?_
      refine j_iload_n C d_OO_column_84 rfl 2 rfl ?_
      obtain ⟨hi, h⟩ := h
      refine j_iaload C (sh_FN_3 hE (⟨hE ▸ q_4, q_5⟩ : jOB E 0 r_2)) hi d_OO_column_85 ?_
      exact j_iret C hr d_OO_column_86 h
    by_cases c20_3 : v2 = 3
    · have h := h.2.2.2.1 c20_3
      refine j_tableIn C d_OO_column_20 (off := 67) (tgt := 87) (by rw [c20_3]; decide) (by rw [c20_3]; decide) (by rw [c20_3]; rfl) (by decide) ?_
      refine j_aload_n C d_OO_column_87 rfl 0 rfl ?_
      refine fg_OO_133 C (⟨hE ▸ q_4, q_5⟩ : jOB E 0 r_2) d_OO_column_88 ?_
      refine j_iload_n C d_OO_column_91 rfl 2 rfl ?_
      obtain ⟨hi, h⟩ := h
      refine j_iaload C (sh_FN_2 hE (⟨hE ▸ q_4, q_5⟩ : jOB E 0 r_2)) hi d_OO_column_92 ?_
      exact j_iret C hr d_OO_column_93 h
    by_cases c20_4 : v2 = 4
    · have h := h.2.2.2.2.1 c20_4
      refine j_tableIn C d_OO_column_20 (off := 74) (tgt := 94) (by rw [c20_4]; decide) (by rw [c20_4]; decide) (by rw [c20_4]; rfl) (by decide) ?_
      refine j_aload_n C d_OO_column_94 rfl 0 rfl ?_
      refine fg_OO_144 C (⟨hE ▸ q_4, q_5⟩ : jOB E 0 r_2) d_OO_column_95 ?_
      refine j_iload_n C d_OO_column_98 rfl 2 rfl ?_
      obtain ⟨hi, h⟩ := h
      refine j_iaload C (sh_FN_4 hE (⟨hE ▸ q_4, q_5⟩ : jOB E 0 r_2)) hi d_OO_column_99 ?_
      exact j_iret C hr d_OO_column_100 h
    by_cases c20_5 : v2 = 5
    · have h := h.2.2.2.2.2.1 c20_5
      refine j_tableIn C d_OO_column_20 (off := 81) (tgt := 101) (by rw [c20_5]; decide) (by rw [c20_5]; decide) (by rw [c20_5]; rfl) (by decide) ?_
      refine j_aload_n C d_OO_column_101 rfl 0 rfl ?_
      refine fg_OO_147 C (⟨hE ▸ q_4, q_5⟩ : jOB E 0 r_2) d_OO_column_102 ?_
      refine j_iload_n C d_OO_column_105 rfl 2 rfl ?_
      obtain ⟨hi, h⟩ := h
      refine j_iaload C (sh_FN_5 hE (⟨hE ▸ q_4, q_5⟩ : jOB E 0 r_2)) hi d_OO_column_106 ?_
      refine j_callSi (As := [.int (I_3 (jr r_2 5) v1.toNatClampNeg)]) C cw_OO_136 w_412 rfl rfl (by decide) (by decide) (Nat.le_of_ble_eq_true rfl) d_OO_column_107 (s_JI_bitCount C.ok  h) (fun r_7 I2 h => ?_)
      obtain ⟨rfl, h⟩ := h
      exact j_iret C hr d_OO_column_110 h
    have h := h.2.2.2.2.2.2 c20_0 c20_1 c20_2 c20_3 c20_4 c20_5
    refine j_tableOut C d_OO_column_20 (tgt := 111) (by have n0 := sw_ne (n := 0) (by decide) c20_0; have n1 := sw_ne (n := 1) (by decide) c20_1; have n2 := sw_ne (n := 2) (by decide) c20_2; have n3 := sw_ne (n := 3) (by decide) c20_3; have n4 := sw_ne (n := 4) (by decide) c20_4; have n5 := sw_ne (n := 5) (by decide) c20_5; omega) (by decide) ?_
    refine j_bipush C d_OO_column_111 ib_m9 ?_
    exact j_iret C hr d_OO_column_113 h
  · have h := h.2 c5
    refine j_aload_n C d_OO_column_8 rfl 0 rfl ?_
    refine j_iconst C d_OO_column_9 ic_m1 ?_
    refine j_callVi (As := [.int (-1 : Int32)]) C jcl_OO cw_OO_73 w_352 ws_3 g_h0 rfl rfl (by decide) (by decide) (Nat.le_of_ble_eq_true rfl) d_OO_column_10 (s_OO_refuse C.ok hE g_h0 h) (fun r_8 I_9 h => ?_)
    exact j_iret C hr d_OO_column_13 h
theorem d_OO_fill_0 : decode prog_1_method_10_code 0 = .ok (.aload_n 0, 1) := by decide +kernel
theorem d_OO_fill_1 : decode prog_1_method_10_code 1 = .ok (.invokevirtual 114, 3) := by decide +kernel
theorem d_OO_fill_4 : decode prog_1_method_10_code 4 = .ok (.astore_n 2, 1) := by decide +kernel
theorem d_OO_fill_5 : decode prog_1_method_10_code 5 = .ok (.iload_n 1, 1) := by decide +kernel
theorem d_OO_fill_6 : decode prog_1_method_10_code 6 = .ok (.ifCond .lt 11, 3) := by decide +kernel
theorem d_OO_fill_9 : decode prog_1_method_10_code 9 = .ok (.iload_n 1, 1) := by decide +kernel
theorem d_OO_fill_10 : decode prog_1_method_10_code 10 = .ok (.aload_n 2, 1) := by decide +kernel
theorem d_OO_fill_11 : decode prog_1_method_10_code 11 = .ok (.getfield 118, 3) := by decide +kernel
theorem d_OO_fill_14 : decode prog_1_method_10_code 14 = .ok (.if_icmp .lt 8, 3) := by decide +kernel
theorem d_OO_fill_17 : decode prog_1_method_10_code 17 = .ok (.bipush (-9), 2) := by decide +kernel
theorem d_OO_fill_19 : decode prog_1_method_10_code 19 = .ok (.goto 9, 3) := by decide +kernel
theorem d_OO_fill_22 : decode prog_1_method_10_code 22 = .ok (.aload_n 2, 1) := by decide +kernel
theorem d_OO_fill_23 : decode prog_1_method_10_code 23 = .ok (.getfield 127, 3) := by decide +kernel
theorem d_OO_fill_26 : decode prog_1_method_10_code 26 = .ok (.iload_n 1, 1) := by decide +kernel
theorem d_OO_fill_27 : decode prog_1_method_10_code 27 = .ok (.iaload, 1) := by decide +kernel
theorem d_OO_fill_28 : decode prog_1_method_10_code 28 = .ok (.ireturn, 1) := by decide +kernel
/-- OutOrder.fill(I)I -/
def OO_fill (h0 : Nat) (v1 : Int32) (I : jM) (K : Int32 → jM → Prop) : Prop :=
  OO_fullNet h0 I (fun r_1 I_2 => (r_1 ∈ jLX ∧ jk r_1 = 0 ∧ ((v1 < 0 → K (-9 : Int32) I_2) ∧ (¬ v1 < 0 → ((v1 < (I_2 r_1 7) → (vp_in v1 288 ∧ K (I_2 (jr r_1 1) v1.toNatClampNeg) I_2)) ∧ (¬ v1 < (I_2 r_1 7) → K (-9 : Int32) I_2))))))
set_option maxRecDepth 100000 in
set_option maxHeartbeats 4000000 in
theorem s_OO_fill {l : Launch} {E : jE} (ok : jOK E) (hE : E.2.2.2 = jLX) {h0 : Nat} {v1 : Int32} (g_h0 : jOB E 10 h0) {I : jM} {K : Int32 → jM → Prop} (h : OO_fill h0 v1 I K) : jSi l E ⟨"OutOrder", "fill", "(I)I"⟩ prog_1_method_10_code 3 (some .int) 4 91 [.ref (E.2.2.1 h0), .int v1] I K := by
  refine jS_ofF (own := "OutOrder") (by decide +kernel) rfl ok (Nat.le_of_ble_eq_true rfl) (fun Z _ C hr => ?_)
  show jJ Z E 3 (jQi Z E K) 0 [(0, .ref (E.2.2.1 h0)), (1, .int v1)] [] I
  unfold OO_fill at h
  refine j_aload_n C d_OO_fill_0 rfl 0 rfl ?_
  refine j_callVr (As := []) C jcl_OO cw_OO_114 w_491 ws_13 g_h0 rfl rfl (by decide) (by decide) (Nat.le_of_ble_eq_true rfl) d_OO_fill_1 (s_OO_fullNet C.ok hE g_h0 h) (fun r_1 I_2 h => ?_)
  obtain ⟨q_3, q_4, h⟩ := h
  refine j_astore_n C d_OO_fill_4 rfl (by decide) (lv' := [(2, .ref (E.2.2.1 r_1)), (0, .ref (E.2.2.1 h0)), (1, .int v1)]) rfl ?_
  refine j_iload_n C d_OO_fill_5 rfl 2 rfl ?_
  refine j_if_lt C d_OO_fill_6 (tgt := 17) (by decide) (fun c6 => ?_) (fun c6 => ?_)
  · have h := h.1 c6
    refine j_bipush C d_OO_fill_17 ib_m9 ?_
    refine j_goto C d_OO_fill_19 (tgt := 28) (by decide) ?_
    exact j_iret C hr d_OO_fill_28 h
  · have h := h.2 c6
    refine j_iload_n C d_OO_fill_9 rfl 2 rfl ?_
    refine j_aload_n C d_OO_fill_10 rfl 0 rfl ?_
    refine fg_OO_118 C (⟨hE ▸ q_3, q_4⟩ : jOB E 0 r_1) d_OO_fill_11 ?_
    refine j_icmp_lt C d_OO_fill_14 (tgt := 22) (by decide) (fun c14 => ?_) (fun c14 => ?_)
    · have h := h.1 c14
      refine j_aload_n C d_OO_fill_22 rfl 0 rfl ?_
      refine fg_OO_127 C (⟨hE ▸ q_3, q_4⟩ : jOB E 0 r_1) d_OO_fill_23 ?_
      refine j_iload_n C d_OO_fill_26 rfl 2 rfl ?_
      obtain ⟨hi, h⟩ := h
      refine j_iaload C (sh_FN_1 hE (⟨hE ▸ q_3, q_4⟩ : jOB E 0 r_1)) hi d_OO_fill_27 ?_
      exact j_iret C hr d_OO_fill_28 h
    · have h := h.2 c14
      refine j_bipush C d_OO_fill_17 ib_m9 ?_
      refine j_goto C d_OO_fill_19 (tgt := 28) (by decide) ?_
      exact j_iret C hr d_OO_fill_28 h
theorem d_OO_fills_0 : decode prog_1_method_9_code 0 = .ok (.aload_n 0, 1) := by decide +kernel
theorem d_OO_fills_1 : decode prog_1_method_9_code 1 = .ok (.invokevirtual 114, 3) := by decide +kernel
theorem d_OO_fills_4 : decode prog_1_method_9_code 4 = .ok (.getfield 118, 3) := by decide +kernel
theorem d_OO_fills_7 : decode prog_1_method_9_code 7 = .ok (.ireturn, 1) := by decide +kernel
/-- OutOrder.fills()I -/
def OO_fills (h0 : Nat) (I : jM) (K : Int32 → jM → Prop) : Prop :=
  OO_fullNet h0 I (fun r_1 I_2 => (r_1 ∈ jLX ∧ jk r_1 = 0 ∧ K (I_2 r_1 7) I_2))
set_option maxRecDepth 100000 in
set_option maxHeartbeats 4000000 in
theorem s_OO_fills {l : Launch} {E : jE} (ok : jOK E) (hE : E.2.2.2 = jLX) {h0 : Nat} (g_h0 : jOB E 10 h0) {I : jM} {K : Int32 → jM → Prop} (h : OO_fills h0 I K) : jSi l E ⟨"OutOrder", "fills", "()I"⟩ prog_1_method_9_code 1 (some .int) 4 91 [.ref (E.2.2.1 h0)] I K := by
  refine jS_ofF (own := "OutOrder") (by decide +kernel) rfl ok (Nat.le_of_ble_eq_true rfl) (fun Z _ C hr => ?_)
  show jJ Z E 1 (jQi Z E K) 0 [(0, .ref (E.2.2.1 h0))] [] I
  unfold OO_fills at h
  refine j_aload_n C d_OO_fills_0 rfl 0 rfl ?_
  refine j_callVr (As := []) C jcl_OO cw_OO_114 w_491 ws_13 g_h0 rfl rfl (by decide) (by decide) (Nat.le_of_ble_eq_true rfl) d_OO_fills_1 (s_OO_fullNet C.ok hE g_h0 h) (fun r_1 I_2 h => ?_)
  obtain ⟨q_3, q_4, h⟩ := h
  refine fg_OO_118 C (⟨hE ▸ q_3, q_4⟩ : jOB E 0 r_1) d_OO_fills_4 ?_
  exact j_iret C hr d_OO_fills_7 h
theorem d_OO_going_0 : decode prog_1_method_19_code 0 = .ok (.aload_n 0, 1) := by decide +kernel
theorem d_OO_going_1 : decode prog_1_method_19_code 1 = .ok (.iload_n 1, 1) := by decide +kernel
theorem d_OO_going_2 : decode prog_1_method_19_code 2 = .ok (.invokevirtual 83, 3) := by decide +kernel
theorem d_OO_going_5 : decode prog_1_method_19_code 5 = .ok (.ifCond .eq 9, 3) := by decide +kernel
theorem d_OO_going_8 : decode prog_1_method_19_code 8 = .ok (.aload_n 0, 1) := by decide +kernel
theorem d_OO_going_9 : decode prog_1_method_19_code 9 = .ok (.iconst (-1), 1) := by decide +kernel
theorem d_OO_going_10 : decode prog_1_method_19_code 10 = .ok (.invokevirtual 73, 3) := by decide +kernel
theorem d_OO_going_13 : decode prog_1_method_19_code 13 = .ok (.ireturn, 1) := by decide +kernel
theorem d_OO_going_14 : decode prog_1_method_19_code 14 = .ok (.aload_n 0, 1) := by decide +kernel
theorem d_OO_going_15 : decode prog_1_method_19_code 15 = .ok (.getfield 47, 3) := by decide +kernel
theorem d_OO_going_18 : decode prog_1_method_19_code 18 = .ok (.getfield 185, 3) := by decide +kernel
theorem d_OO_going_21 : decode prog_1_method_19_code 21 = .ok (.iload_n 1, 1) := by decide +kernel
theorem d_OO_going_22 : decode prog_1_method_19_code 22 = .ok (.invokevirtual 189, 3) := by decide +kernel
theorem d_OO_going_25 : decode prog_1_method_19_code 25 = .ok (.ifCond .ne 10, 3) := by decide +kernel
theorem d_OO_going_28 : decode prog_1_method_19_code 28 = .ok (.aload_n 0, 1) := by decide +kernel
theorem d_OO_going_29 : decode prog_1_method_19_code 29 = .ok (.bipush (-3), 2) := by decide +kernel
theorem d_OO_going_31 : decode prog_1_method_19_code 31 = .ok (.invokevirtual 73, 3) := by decide +kernel
theorem d_OO_going_34 : decode prog_1_method_19_code 34 = .ok (.ireturn, 1) := by decide +kernel
theorem d_OO_going_35 : decode prog_1_method_19_code 35 = .ok (.iload_n 2, 1) := by decide +kernel
theorem d_OO_going_36 : decode prog_1_method_19_code 36 = .ok (.tableswitch 89 0 3 #[32, 48, 64, 77], 32) := by decide +kernel
theorem d_OO_going_68 : decode prog_1_method_19_code 68 = .ok (.aload_n 0, 1) := by decide +kernel
theorem d_OO_going_69 : decode prog_1_method_19_code 69 = .ok (.getfield 47, 3) := by decide +kernel
theorem d_OO_going_72 : decode prog_1_method_19_code 72 = .ok (.iload_n 1, 1) := by decide +kernel
theorem d_OO_going_73 : decode prog_1_method_19_code 73 = .ok (.aload_n 0, 1) := by decide +kernel
theorem d_OO_going_74 : decode prog_1_method_19_code 74 = .ok (.getfield 12, 3) := by decide +kernel
theorem d_OO_going_77 : decode prog_1_method_19_code 77 = .ok (.getfield 100, 3) := by decide +kernel
theorem d_OO_going_80 : decode prog_1_method_19_code 80 = .ok (.invokevirtual 200, 3) := by decide +kernel
theorem d_OO_going_83 : decode prog_1_method_19_code 83 = .ok (.ireturn, 1) := by decide +kernel
theorem d_OO_going_84 : decode prog_1_method_19_code 84 = .ok (.aload_n 0, 1) := by decide +kernel
theorem d_OO_going_85 : decode prog_1_method_19_code 85 = .ok (.getfield 47, 3) := by decide +kernel
theorem d_OO_going_88 : decode prog_1_method_19_code 88 = .ok (.getfield 185, 3) := by decide +kernel
theorem d_OO_going_91 : decode prog_1_method_19_code 91 = .ok (.getfield 204, 3) := by decide +kernel
theorem d_OO_going_94 : decode prog_1_method_19_code 94 = .ok (.iload_n 1, 1) := by decide +kernel
theorem d_OO_going_95 : decode prog_1_method_19_code 95 = .ok (.iaload, 1) := by decide +kernel
theorem d_OO_going_96 : decode prog_1_method_19_code 96 = .ok (.invokestatic 136, 3) := by decide +kernel
theorem d_OO_going_99 : decode prog_1_method_19_code 99 = .ok (.ireturn, 1) := by decide +kernel
theorem d_OO_going_100 : decode prog_1_method_19_code 100 = .ok (.aload_n 0, 1) := by decide +kernel
theorem d_OO_going_101 : decode prog_1_method_19_code 101 = .ok (.getfield 47, 3) := by decide +kernel
theorem d_OO_going_104 : decode prog_1_method_19_code 104 = .ok (.getfield 185, 3) := by decide +kernel
theorem d_OO_going_107 : decode prog_1_method_19_code 107 = .ok (.getfield 204, 3) := by decide +kernel
theorem d_OO_going_110 : decode prog_1_method_19_code 110 = .ok (.iload_n 1, 1) := by decide +kernel
theorem d_OO_going_111 : decode prog_1_method_19_code 111 = .ok (.iaload, 1) := by decide +kernel
theorem d_OO_going_112 : decode prog_1_method_19_code 112 = .ok (.ireturn, 1) := by decide +kernel
theorem d_OO_going_113 : decode prog_1_method_19_code 113 = .ok (.aload_n 0, 1) := by decide +kernel
theorem d_OO_going_114 : decode prog_1_method_19_code 114 = .ok (.getfield 47, 3) := by decide +kernel
theorem d_OO_going_117 : decode prog_1_method_19_code 117 = .ok (.getfield 185, 3) := by decide +kernel
theorem d_OO_going_120 : decode prog_1_method_19_code 120 = .ok (.iload_n 1, 1) := by decide +kernel
theorem d_OO_going_121 : decode prog_1_method_19_code 121 = .ok (.invokevirtual 194, 3) := by decide +kernel
theorem d_OO_going_124 : decode prog_1_method_19_code 124 = .ok (.ireturn, 1) := by decide +kernel
theorem d_OO_going_125 : decode prog_1_method_19_code 125 = .ok (.bipush (-9), 2) := by decide +kernel
theorem d_OO_going_127 : decode prog_1_method_19_code 127 = .ok (.ireturn, 1) := by decide +kernel
/-- OutOrder.going(II)I -/
def OO_going (h0 : Nat) (v1 : Int32) (v2 : Int32) (I : jM) (K : Int32 → jM → Prop) : Prop :=
  OO_isNobody h0 v1 I (fun r_1 => ((r_1 = 0 → NE_has (jr (jr h0 5) 0) v1 I (fun r_2 => ((¬ r_2 = 0 → ((v2 = 0 → GO_kind (jr h0 5) v1 (I (jr h0 0) 5) I (fun r_3 => K r_3 I)) ∧ (v2 = 1 → (vp_in v1 24 ∧ JI_bitCount (I (jr (jr (jr h0 5) 0) 0) v1.toNatClampNeg) I (fun r_4 => K r_4 I))) ∧ (v2 = 2 → (vp_in v1 24 ∧ K (I (jr (jr (jr h0 5) 0) 0) v1.toNatClampNeg) I)) ∧ (v2 = 3 → NE_missing (jr (jr h0 5) 0) v1 I (fun r_5 => K r_5 I)) ∧ (¬ v2 = 0 → ¬ v2 = 1 → ¬ v2 = 2 → ¬ v2 = 3 → K (-9 : Int32) I))) ∧ (r_2 = 0 → OO_refuse h0 (-3 : Int32) I (fun r_6 I_7 => K r_6 I_7))))) ∧ (¬ r_1 = 0 → OO_refuse h0 (-1 : Int32) I (fun r_8 I_9 => K r_8 I_9))))
set_option maxRecDepth 100000 in
set_option maxHeartbeats 4000000 in
theorem s_OO_going {l : Launch} {E : jE} (ok : jOK E) (hE : E.2.2.2 = jLX) {h0 : Nat} {v1 : Int32} {v2 : Int32} (g_h0 : jOB E 10 h0) {I : jM} {K : Int32 → jM → Prop} (h : OO_going h0 v1 v2 I K) : jSi l E ⟨"OutOrder", "going", "(II)I"⟩ prog_1_method_19_code 3 (some .int) 3 66 [.ref (E.2.2.1 h0), .int v1, .int v2] I K := by
  refine jS_ofF (own := "OutOrder") (by decide +kernel) rfl ok (Nat.le_of_ble_eq_true rfl) (fun Z _ C hr => ?_)
  show jJ Z E 3 (jQi Z E K) 0 [(0, .ref (E.2.2.1 h0)), (1, .int v1), (2, .int v2)] [] I
  unfold OO_going at h
  refine j_aload_n C d_OO_going_0 rfl 0 rfl ?_
  refine j_iload_n C d_OO_going_1 rfl 1 rfl ?_
  refine j_callVi (As := [.int v1]) C jcl_OO cw_OO_83 w_363 ws_4 g_h0 rfl rfl (by decide) (by decide) (Nat.le_of_ble_eq_true rfl) d_OO_going_2 (s_OO_isNobody C.ok hE g_h0 h) (fun r_1 I2 h => ?_)
  obtain ⟨rfl, h⟩ := h
  refine j_if_eq C d_OO_going_5 (tgt := 14) (by decide) (fun c5 => ?_) (fun c5 => ?_)
  · have h := h.1 c5
    refine j_aload_n C d_OO_going_14 rfl 0 rfl ?_
    refine fg_OO_47 C g_h0 d_OO_going_15 ?_
    refine fg_OO_185 C (sh_OO_5 hE g_h0) d_OO_going_18 ?_
    refine j_iload_n C d_OO_going_21 rfl 1 rfl ?_
    refine j_callVi (As := [.int v1]) C jcl_NE cw_OO_189 w_457 w_458 (sh_GO_0 hE (sh_OO_5 hE g_h0)) rfl rfl (by decide) (by decide) (Nat.le_of_ble_eq_true rfl) d_OO_going_22 (s_NE_has C.ok (sh_GO_0 hE (sh_OO_5 hE g_h0)) h) (fun r_2 I2 h => ?_)
    obtain ⟨rfl, h⟩ := h
    refine j_if_ne C d_OO_going_25 (tgt := 35) (by decide) (fun c25 => ?_) (fun c25 => ?_)
    · have h := h.1 c25
      refine j_iload_n C d_OO_going_35 rfl 2 rfl ?_
      by_cases c36_0 : v2 = 0
      · have h := h.1 c36_0
        refine j_tableIn C d_OO_going_36 (off := 32) (tgt := 68) (by rw [c36_0]; decide) (by rw [c36_0]; decide) (by rw [c36_0]; rfl) (by decide) ?_
        refine j_aload_n C d_OO_going_68 rfl 0 rfl ?_
        refine fg_OO_47 C g_h0 d_OO_going_69 ?_
        refine j_iload_n C d_OO_going_72 rfl 1 rfl ?_
        refine j_aload_n C d_OO_going_73 rfl 0 rfl ?_
        refine fg_OO_12 C g_h0 d_OO_going_74 ?_
        refine fg_OO_100 C (sh_OO_0 hE g_h0) d_OO_going_77 ?_
        refine j_callVi (As := [.int v1, .int (I (jr h0 0) 5)]) C jcl_GO cw_OO_200 w_600 w_601 (sh_OO_5 hE g_h0) rfl rfl (by decide) (by decide) (Nat.le_of_ble_eq_true rfl) d_OO_going_80 (s_GO_kind C.ok hE (sh_OO_5 hE g_h0) h) (fun r_3 I2 h => ?_)
        obtain ⟨rfl, h⟩ := h
        exact j_iret C hr d_OO_going_83 h
      by_cases c36_1 : v2 = 1
      · have h := h.2.1 c36_1
        refine j_tableIn C d_OO_going_36 (off := 48) (tgt := 84) (by rw [c36_1]; decide) (by rw [c36_1]; decide) (by rw [c36_1]; rfl) (by decide) ?_
        refine j_aload_n C d_OO_going_84 rfl 0 rfl ?_
        refine fg_OO_47 C g_h0 d_OO_going_85 ?_
        refine fg_OO_185 C (sh_OO_5 hE g_h0) d_OO_going_88 ?_
        refine fg_OO_204 C (sh_GO_0 hE (sh_OO_5 hE g_h0)) d_OO_going_91 ?_
        refine j_iload_n C d_OO_going_94 rfl 1 rfl ?_
        obtain ⟨hi, h⟩ := h
        refine j_iaload C (sh_NE_0 hE (sh_GO_0 hE (sh_OO_5 hE g_h0))) hi d_OO_going_95 ?_
        refine j_callSi (As := [.int (I (jr (jr (jr h0 5) 0) 0) v1.toNatClampNeg)]) C cw_OO_136 w_412 rfl rfl (by decide) (by decide) (Nat.le_of_ble_eq_true rfl) d_OO_going_96 (s_JI_bitCount C.ok  h) (fun r_4 I2 h => ?_)
        obtain ⟨rfl, h⟩ := h
        exact j_iret C hr d_OO_going_99 h
      by_cases c36_2 : v2 = 2
      · have h := h.2.2.1 c36_2
        refine j_tableIn C d_OO_going_36 (off := 64) (tgt := 100) (by rw [c36_2]; decide) (by rw [c36_2]; decide) (by rw [c36_2]; rfl) (by decide) ?_
        refine j_aload_n C d_OO_going_100 rfl 0 rfl ?_
        refine fg_OO_47 C g_h0 d_OO_going_101 ?_
        refine fg_OO_185 C (sh_OO_5 hE g_h0) d_OO_going_104 ?_
        refine fg_OO_204 C (sh_GO_0 hE (sh_OO_5 hE g_h0)) d_OO_going_107 ?_
        refine j_iload_n C d_OO_going_110 rfl 1 rfl ?_
        obtain ⟨hi, h⟩ := h
        refine j_iaload C (sh_NE_0 hE (sh_GO_0 hE (sh_OO_5 hE g_h0))) hi d_OO_going_111 ?_
        exact j_iret C hr d_OO_going_112 h
      by_cases c36_3 : v2 = 3
      · have h := h.2.2.2.1 c36_3
        refine j_tableIn C d_OO_going_36 (off := 77) (tgt := 113) (by rw [c36_3]; decide) (by rw [c36_3]; decide) (by rw [c36_3]; rfl) (by decide) ?_
        refine j_aload_n C d_OO_going_113 rfl 0 rfl ?_
        refine fg_OO_47 C g_h0 d_OO_going_114 ?_
        refine fg_OO_185 C (sh_OO_5 hE g_h0) d_OO_going_117 ?_
        refine j_iload_n C d_OO_going_120 rfl 1 rfl ?_
        refine j_callVi (As := [.int v1]) C jcl_NE cw_OO_194 w_484 w_485 (sh_GO_0 hE (sh_OO_5 hE g_h0)) rfl rfl (by decide) (by decide) (Nat.le_of_ble_eq_true rfl) d_OO_going_121 (s_NE_missing C.ok hE (sh_GO_0 hE (sh_OO_5 hE g_h0)) h) (fun r_5 I2 h => ?_)
        obtain ⟨rfl, h⟩ := h
        exact j_iret C hr d_OO_going_124 h
      have h := h.2.2.2.2 c36_0 c36_1 c36_2 c36_3
      refine j_tableOut C d_OO_going_36 (tgt := 125) (by have n0 := sw_ne (n := 0) (by decide) c36_0; have n1 := sw_ne (n := 1) (by decide) c36_1; have n2 := sw_ne (n := 2) (by decide) c36_2; have n3 := sw_ne (n := 3) (by decide) c36_3; omega) (by decide) ?_
      refine j_bipush C d_OO_going_125 ib_m9 ?_
      exact j_iret C hr d_OO_going_127 h
    · have h := h.2 c25
      refine j_aload_n C d_OO_going_28 rfl 0 rfl ?_
      refine j_bipush C d_OO_going_29 ib_m3 ?_
      refine j_callVi (As := [.int (-3 : Int32)]) C jcl_OO cw_OO_73 w_352 ws_3 g_h0 rfl rfl (by decide) (by decide) (Nat.le_of_ble_eq_true rfl) d_OO_going_31 (s_OO_refuse C.ok hE g_h0 h) (fun r_6 I_7 h => ?_)
      exact j_iret C hr d_OO_going_34 h
  · have h := h.2 c5
    refine j_aload_n C d_OO_going_8 rfl 0 rfl ?_
    refine j_iconst C d_OO_going_9 ic_m1 ?_
    refine j_callVi (As := [.int (-1 : Int32)]) C jcl_OO cw_OO_73 w_352 ws_3 g_h0 rfl rfl (by decide) (by decide) (Nat.le_of_ble_eq_true rfl) d_OO_going_10 (s_OO_refuse C.ok hE g_h0 h) (fun r_8 I_9 h => ?_)
    exact j_iret C hr d_OO_going_13 h
theorem d_OO_group_0 : decode prog_1_method_13_code 0 = .ok (.aload_n 0, 1) := by decide +kernel
theorem d_OO_group_1 : decode prog_1_method_13_code 1 = .ok (.invokevirtual 114, 3) := by decide +kernel
theorem d_OO_group_4 : decode prog_1_method_13_code 4 = .ok (.astore_n 2, 1) := by decide +kernel
theorem d_OO_group_5 : decode prog_1_method_13_code 5 = .ok (.iload_n 1, 1) := by decide +kernel
theorem d_OO_group_6 : decode prog_1_method_13_code 6 = .ok (.ifCond .lt 11, 3) := by decide +kernel
theorem d_OO_group_9 : decode prog_1_method_13_code 9 = .ok (.iload_n 1, 1) := by decide +kernel
theorem d_OO_group_10 : decode prog_1_method_13_code 10 = .ok (.aload_n 2, 1) := by decide +kernel
theorem d_OO_group_11 : decode prog_1_method_13_code 11 = .ok (.getfield 153, 3) := by decide +kernel
theorem d_OO_group_14 : decode prog_1_method_13_code 14 = .ok (.if_icmp .lt 8, 3) := by decide +kernel
theorem d_OO_group_17 : decode prog_1_method_13_code 17 = .ok (.bipush (-9), 2) := by decide +kernel
theorem d_OO_group_19 : decode prog_1_method_13_code 19 = .ok (.goto 9, 3) := by decide +kernel
theorem d_OO_group_22 : decode prog_1_method_13_code 22 = .ok (.aload_n 2, 1) := by decide +kernel
theorem d_OO_group_23 : decode prog_1_method_13_code 23 = .ok (.getfield 156, 3) := by decide +kernel
theorem d_OO_group_26 : decode prog_1_method_13_code 26 = .ok (.iload_n 1, 1) := by decide +kernel
theorem d_OO_group_27 : decode prog_1_method_13_code 27 = .ok (.iaload, 1) := by decide +kernel
theorem d_OO_group_28 : decode prog_1_method_13_code 28 = .ok (.ireturn, 1) := by decide +kernel
/-- OutOrder.group(I)I -/
def OO_group (h0 : Nat) (v1 : Int32) (I : jM) (K : Int32 → jM → Prop) : Prop :=
  OO_fullNet h0 I (fun r_1 I_2 => (r_1 ∈ jLX ∧ jk r_1 = 0 ∧ ((v1 < 0 → K (-9 : Int32) I_2) ∧ (¬ v1 < 0 → ((v1 < (I_2 r_1 8) → (vp_in v1 24 ∧ K (I_2 (jr r_1 6) v1.toNatClampNeg) I_2)) ∧ (¬ v1 < (I_2 r_1 8) → K (-9 : Int32) I_2))))))
set_option maxRecDepth 100000 in
set_option maxHeartbeats 4000000 in
theorem s_OO_group {l : Launch} {E : jE} (ok : jOK E) (hE : E.2.2.2 = jLX) {h0 : Nat} {v1 : Int32} (g_h0 : jOB E 10 h0) {I : jM} {K : Int32 → jM → Prop} (h : OO_group h0 v1 I K) : jSi l E ⟨"OutOrder", "group", "(I)I"⟩ prog_1_method_13_code 3 (some .int) 4 91 [.ref (E.2.2.1 h0), .int v1] I K := by
  refine jS_ofF (own := "OutOrder") (by decide +kernel) rfl ok (Nat.le_of_ble_eq_true rfl) (fun Z _ C hr => ?_)
  show jJ Z E 3 (jQi Z E K) 0 [(0, .ref (E.2.2.1 h0)), (1, .int v1)] [] I
  unfold OO_group at h
  refine j_aload_n C d_OO_group_0 rfl 0 rfl ?_
  refine j_callVr (As := []) C jcl_OO cw_OO_114 w_491 ws_13 g_h0 rfl rfl (by decide) (by decide) (Nat.le_of_ble_eq_true rfl) d_OO_group_1 (s_OO_fullNet C.ok hE g_h0 h) (fun r_1 I_2 h => ?_)
  obtain ⟨q_3, q_4, h⟩ := h
  refine j_astore_n C d_OO_group_4 rfl (by decide) (lv' := [(2, .ref (E.2.2.1 r_1)), (0, .ref (E.2.2.1 h0)), (1, .int v1)]) rfl ?_
  refine j_iload_n C d_OO_group_5 rfl 2 rfl ?_
  refine j_if_lt C d_OO_group_6 (tgt := 17) (by decide) (fun c6 => ?_) (fun c6 => ?_)
  · have h := h.1 c6
    refine j_bipush C d_OO_group_17 ib_m9 ?_
    refine j_goto C d_OO_group_19 (tgt := 28) (by decide) ?_
    exact j_iret C hr d_OO_group_28 h
  · have h := h.2 c6
    refine j_iload_n C d_OO_group_9 rfl 2 rfl ?_
    refine j_aload_n C d_OO_group_10 rfl 0 rfl ?_
    refine fg_OO_153 C (⟨hE ▸ q_3, q_4⟩ : jOB E 0 r_1) d_OO_group_11 ?_
    refine j_icmp_lt C d_OO_group_14 (tgt := 22) (by decide) (fun c14 => ?_) (fun c14 => ?_)
    · have h := h.1 c14
      refine j_aload_n C d_OO_group_22 rfl 0 rfl ?_
      refine fg_OO_156 C (⟨hE ▸ q_3, q_4⟩ : jOB E 0 r_1) d_OO_group_23 ?_
      refine j_iload_n C d_OO_group_26 rfl 2 rfl ?_
      obtain ⟨hi, h⟩ := h
      refine j_iaload C (sh_FN_6 hE (⟨hE ▸ q_3, q_4⟩ : jOB E 0 r_1)) hi d_OO_group_27 ?_
      exact j_iret C hr d_OO_group_28 h
    · have h := h.2 c14
      refine j_bipush C d_OO_group_17 ib_m9 ?_
      refine j_goto C d_OO_group_19 (tgt := 28) (by decide) ?_
      exact j_iret C hr d_OO_group_28 h
theorem d_OO_hold_0 : decode prog_1_method_5_code 0 = .ok (.aload_n 0, 1) := by decide +kernel
theorem d_OO_hold_1 : decode prog_1_method_5_code 1 = .ok (.iload_n 1, 1) := by decide +kernel
theorem d_OO_hold_2 : decode prog_1_method_5_code 2 = .ok (.invokevirtual 83, 3) := by decide +kernel
theorem d_OO_hold_5 : decode prog_1_method_5_code 5 = .ok (.ifCond .ne 15, 3) := by decide +kernel
theorem d_OO_hold_8 : decode prog_1_method_5_code 8 = .ok (.aload_n 0, 1) := by decide +kernel
theorem d_OO_hold_9 : decode prog_1_method_5_code 9 = .ok (.getfield 12, 3) := by decide +kernel
theorem d_OO_hold_12 : decode prog_1_method_5_code 12 = .ok (.iload_n 1, 1) := by decide +kernel
theorem d_OO_hold_13 : decode prog_1_method_5_code 13 = .ok (.invokevirtual 97, 3) := by decide +kernel
theorem d_OO_hold_16 : decode prog_1_method_5_code 16 = .ok (.iload_n 2, 1) := by decide +kernel
theorem d_OO_hold_17 : decode prog_1_method_5_code 17 = .ok (.if_icmp .ne 5, 3) := by decide +kernel
theorem d_OO_hold_20 : decode prog_1_method_5_code 20 = .ok (.iconst 0, 1) := by decide +kernel
theorem d_OO_hold_21 : decode prog_1_method_5_code 21 = .ok (.ireturn, 1) := by decide +kernel
theorem d_OO_hold_22 : decode prog_1_method_5_code 22 = .ok (.aload_n 0, 1) := by decide +kernel
theorem d_OO_hold_23 : decode prog_1_method_5_code 23 = .ok (.getfield 12, 3) := by decide +kernel
theorem d_OO_hold_26 : decode prog_1_method_5_code 26 = .ok (.dup, 1) := by decide +kernel
theorem d_OO_hold_27 : decode prog_1_method_5_code 27 = .ok (.getfield 100, 3) := by decide +kernel
theorem d_OO_hold_30 : decode prog_1_method_5_code 30 = .ok (.iconst 1, 1) := by decide +kernel
theorem d_OO_hold_31 : decode prog_1_method_5_code 31 = .ok (.iload_n 1, 1) := by decide +kernel
theorem d_OO_hold_32 : decode prog_1_method_5_code 32 = .ok (.ishl, 1) := by decide +kernel
theorem d_OO_hold_33 : decode prog_1_method_5_code 33 = .ok (.ixor, 1) := by decide +kernel
theorem d_OO_hold_34 : decode prog_1_method_5_code 34 = .ok (.putfield 100, 3) := by decide +kernel
theorem d_OO_hold_37 : decode prog_1_method_5_code 37 = .ok (.iconst 1, 1) := by decide +kernel
theorem d_OO_hold_38 : decode prog_1_method_5_code 38 = .ok (.ireturn, 1) := by decide +kernel
/-- OutOrder.hold(IZ)Z -/
def OO_hold (h0 : Nat) (v1 : Int32) (v2 : Int32) (I : jM) (K : Int32 → jM → Prop) : Prop :=
  OO_isNobody h0 v1 I (fun r_1 => ((¬ r_1 = 0 → K (0 : Int32) I) ∧ (r_1 = 0 → TA_isHeld (jr h0 0) v1 I (fun r_2 => ((¬ r_2 = v2 → (∀ I_3 : jM, I_3 = jwr I (jr h0 0) 5 ((I (jr h0 0) 5) ^^^ ((1 : Int32) <<< (v1 &&& 31))) → K (1 : Int32) I_3)) ∧ (r_2 = v2 → K (0 : Int32) I))))))
set_option maxRecDepth 100000 in
set_option maxHeartbeats 4000000 in
theorem s_OO_hold {l : Launch} {E : jE} (ok : jOK E) (hE : E.2.2.2 = jLX) {h0 : Nat} {v1 : Int32} {v2 : Int32} (g_h0 : jOB E 10 h0) {I : jM} {K : Int32 → jM → Prop} (h : OO_hold h0 v1 v2 I K) : jSi l E ⟨"OutOrder", "hold", "(IZ)Z"⟩ prog_1_method_5_code 3 (some .boolean) 1 21 [.ref (E.2.2.1 h0), .int v1, .int v2] I K := by
  refine jS_ofF (own := "OutOrder") (by decide +kernel) rfl ok (Nat.le_of_ble_eq_true rfl) (fun Z _ C hr => ?_)
  show jJ Z E 3 (jQi Z E K) 0 [(0, .ref (E.2.2.1 h0)), (1, .int v1), (2, .int v2)] [] I
  unfold OO_hold at h
  refine j_aload_n C d_OO_hold_0 rfl 0 rfl ?_
  refine j_iload_n C d_OO_hold_1 rfl 1 rfl ?_
  refine j_callVi (As := [.int v1]) C jcl_OO cw_OO_83 w_363 ws_4 g_h0 rfl rfl (by decide) (by decide) (Nat.le_of_ble_eq_true rfl) d_OO_hold_2 (s_OO_isNobody C.ok hE g_h0 h) (fun r_1 I2 h => ?_)
  obtain ⟨rfl, h⟩ := h
  refine j_if_ne C d_OO_hold_5 (tgt := 20) (by decide) (fun c5 => ?_) (fun c5 => ?_)
  · have h := h.1 c5
    refine j_iconst C d_OO_hold_20 ic_0 ?_
    exact j_zret C hr (by decide) d_OO_hold_21 h
  · have h := h.2 c5
    refine j_aload_n C d_OO_hold_8 rfl 0 rfl ?_
    refine fg_OO_12 C g_h0 d_OO_hold_9 ?_
    refine j_iload_n C d_OO_hold_12 rfl 1 rfl ?_
    refine j_callVi (As := [.int v1]) C jcl_TA cw_OO_97 w_385 w_386 (sh_OO_0 hE g_h0) rfl rfl (by decide) (by decide) (Nat.le_of_ble_eq_true rfl) d_OO_hold_13 (s_TA_isHeld C.ok (sh_OO_0 hE g_h0) h) (fun r_2 I2 h => ?_)
    obtain ⟨rfl, h⟩ := h
    refine j_iload_n C d_OO_hold_16 rfl 2 rfl ?_
    refine j_icmp_ne C d_OO_hold_17 (tgt := 22) (by decide) (fun c17 => ?_) (fun c17 => ?_)
    · have h := h.1 c17
      refine j_aload_n C d_OO_hold_22 rfl 0 rfl ?_
      refine fg_OO_12 C g_h0 d_OO_hold_23 ?_
      refine j_dup C d_OO_hold_26 rfl ?_
      refine fg_OO_100 C (sh_OO_0 hE g_h0) d_OO_hold_27 ?_
      refine j_iconst C d_OO_hold_30 ic_1 ?_
      refine j_iload_n C d_OO_hold_31 rfl 1 rfl ?_
      refine j_ishl C d_OO_hold_32 ?_
      refine j_ixor C d_OO_hold_33 ?_
      refine fp_OO_100 C (sh_OO_0 hE g_h0) d_OO_hold_34 ?_
      have h := h _ rfl
      generalize eI_3 : (jwr I (jr h0 0) 5 ((I (jr h0 0) 5) ^^^ ((1 : Int32) <<< (v1 &&& 31))) : jM) = I_3 at h ⊢
      refine j_iconst C d_OO_hold_37 ic_1 ?_
      exact j_zret C hr (by decide) d_OO_hold_38 h
    · have h := h.2 c17
      refine j_iconst C d_OO_hold_20 ic_0 ?_
      exact j_zret C hr (by decide) d_OO_hold_21 h
theorem d_OO_inside_0 : decode prog_1_method_27_code 0 = .ok (.aload_n 0, 1) := by decide +kernel
theorem d_OO_inside_1 : decode prog_1_method_27_code 1 = .ok (.iload_n 1, 1) := by decide +kernel
theorem d_OO_inside_2 : decode prog_1_method_27_code 2 = .ok (.invokevirtual 83, 3) := by decide +kernel
theorem d_OO_inside_5 : decode prog_1_method_27_code 5 = .ok (.ifCond .ne 11, 3) := by decide +kernel
theorem d_OO_inside_8 : decode prog_1_method_27_code 8 = .ok (.aload_n 0, 1) := by decide +kernel
theorem d_OO_inside_9 : decode prog_1_method_27_code 9 = .ok (.iload_n 2, 1) := by decide +kernel
theorem d_OO_inside_10 : decode prog_1_method_27_code 10 = .ok (.invokevirtual 83, 3) := by decide +kernel
theorem d_OO_inside_13 : decode prog_1_method_27_code 13 = .ok (.ifCond .eq 9, 3) := by decide +kernel
theorem d_OO_inside_16 : decode prog_1_method_27_code 16 = .ok (.aload_n 0, 1) := by decide +kernel
theorem d_OO_inside_17 : decode prog_1_method_27_code 17 = .ok (.iconst (-1), 1) := by decide +kernel
theorem d_OO_inside_18 : decode prog_1_method_27_code 18 = .ok (.invokevirtual 73, 3) := by decide +kernel
theorem d_OO_inside_21 : decode prog_1_method_27_code 21 = .ok (.ireturn, 1) := by decide +kernel
theorem d_OO_inside_22 : decode prog_1_method_27_code 22 = .ok (.aload_n 0, 1) := by decide +kernel
theorem d_OO_inside_23 : decode prog_1_method_27_code 23 = .ok (.getfield 54, 3) := by decide +kernel
theorem d_OO_inside_26 : decode prog_1_method_27_code 26 = .ok (.aload_n 0, 1) := by decide +kernel
theorem d_OO_inside_27 : decode prog_1_method_27_code 27 = .ok (.getfield 12, 3) := by decide +kernel
theorem d_OO_inside_30 : decode prog_1_method_27_code 30 = .ok (.getfield 104, 3) := by decide +kernel
theorem d_OO_inside_33 : decode prog_1_method_27_code 33 = .ok (.invokevirtual 240, 3) := by decide +kernel
theorem d_OO_inside_36 : decode prog_1_method_27_code 36 = .ok (.ifCond .ne 10, 3) := by decide +kernel
theorem d_OO_inside_39 : decode prog_1_method_27_code 39 = .ok (.aload_n 0, 1) := by decide +kernel
theorem d_OO_inside_40 : decode prog_1_method_27_code 40 = .ok (.bipush (-5), 2) := by decide +kernel
theorem d_OO_inside_42 : decode prog_1_method_27_code 42 = .ok (.invokevirtual 73, 3) := by decide +kernel
theorem d_OO_inside_45 : decode prog_1_method_27_code 45 = .ok (.ireturn, 1) := by decide +kernel
theorem d_OO_inside_46 : decode prog_1_method_27_code 46 = .ok (.aload_n 0, 1) := by decide +kernel
theorem d_OO_inside_47 : decode prog_1_method_27_code 47 = .ok (.getfield 54, 3) := by decide +kernel
theorem d_OO_inside_50 : decode prog_1_method_27_code 50 = .ok (.aload_n 0, 1) := by decide +kernel
theorem d_OO_inside_51 : decode prog_1_method_27_code 51 = .ok (.getfield 12, 3) := by decide +kernel
theorem d_OO_inside_54 : decode prog_1_method_27_code 54 = .ok (.getfield 104, 3) := by decide +kernel
theorem d_OO_inside_57 : decode prog_1_method_27_code 57 = .ok (.aload_n 0, 1) := by decide +kernel
theorem d_OO_inside_58 : decode prog_1_method_27_code 58 = .ok (.getfield 19, 3) := by decide +kernel
theorem d_OO_inside_61 : decode prog_1_method_27_code 61 = .ok (.getfield 130, 3) := by decide +kernel
theorem d_OO_inside_64 : decode prog_1_method_27_code 64 = .ok (.iload_n 2, 1) := by decide +kernel
theorem d_OO_inside_65 : decode prog_1_method_27_code 65 = .ok (.iaload, 1) := by decide +kernel
theorem d_OO_inside_66 : decode prog_1_method_27_code 66 = .ok (.invokevirtual 252, 3) := by decide +kernel
theorem d_OO_inside_69 : decode prog_1_method_27_code 69 = .ok (.aload_n 0, 1) := by decide +kernel
theorem d_OO_inside_70 : decode prog_1_method_27_code 70 = .ok (.getfield 54, 3) := by decide +kernel
theorem d_OO_inside_73 : decode prog_1_method_27_code 73 = .ok (.aload_n 0, 1) := by decide +kernel
theorem d_OO_inside_74 : decode prog_1_method_27_code 74 = .ok (.getfield 12, 3) := by decide +kernel
theorem d_OO_inside_77 : decode prog_1_method_27_code 77 = .ok (.invokevirtual 246, 3) := by decide +kernel
theorem d_OO_inside_80 : decode prog_1_method_27_code 80 = .ok (.aload_n 0, 1) := by decide +kernel
theorem d_OO_inside_81 : decode prog_1_method_27_code 81 = .ok (.getfield 54, 3) := by decide +kernel
theorem d_OO_inside_84 : decode prog_1_method_27_code 84 = .ok (.getfield 249, 3) := by decide +kernel
theorem d_OO_inside_87 : decode prog_1_method_27_code 87 = .ok (.aload_n 0, 1) := by decide +kernel
theorem d_OO_inside_88 : decode prog_1_method_27_code 88 = .ok (.getfield 19, 3) := by decide +kernel
theorem d_OO_inside_91 : decode prog_1_method_27_code 91 = .ok (.getfield 130, 3) := by decide +kernel
theorem d_OO_inside_94 : decode prog_1_method_27_code 94 = .ok (.iload_n 1, 1) := by decide +kernel
theorem d_OO_inside_95 : decode prog_1_method_27_code 95 = .ok (.iaload, 1) := by decide +kernel
theorem d_OO_inside_96 : decode prog_1_method_27_code 96 = .ok (.iaload, 1) := by decide +kernel
theorem d_OO_inside_97 : decode prog_1_method_27_code 97 = .ok (.ireturn, 1) := by decide +kernel
def OO_inside_16 (h0 : Nat) (I : jM) (K : Int32 → jM → Prop) : Prop :=
  OO_refuse h0 (-1 : Int32) I (fun r_1 I_2 => K r_1 I_2)
set_option maxRecDepth 100000 in
set_option maxHeartbeats 4000000 in
theorem k_OO_inside_16 {Z : jZ} {E : jE} (C : jC Z E prog_1_method_27_code 3 "OutOrder" 4 90) (hr : (jZh Z).sig.returnType = (some .int)) (hE : E.2.2.2 = jLX)  (h0 : Nat) (I : jM) (g_h0 : jOB E 10 h0) {K : Int32 → jM → Prop} (h : OO_inside_16 h0 I K) : jJ Z E 3 (jQi Z E K) 16 [(0, .ref (E.2.2.1 h0))] [] I := by
  unfold OO_inside_16 at h
  refine j_aload_n C d_OO_inside_16 rfl 0 rfl ?_
  refine j_iconst C d_OO_inside_17 ic_m1 ?_
  refine j_callVi (As := [.int (-1 : Int32)]) C jcl_OO cw_OO_73 w_352 ws_3 g_h0 rfl rfl (by decide) (by decide) (Nat.le_of_ble_eq_true rfl) d_OO_inside_18 (s_OO_refuse C.ok hE g_h0 h) (fun r_1 I_2 h => ?_)
  exact j_iret C hr d_OO_inside_21 h
/-- OutOrder.inside(II)I -/
def OO_inside (h0 : Nat) (v1 : Int32) (v2 : Int32) (I : jM) (K : Int32 → jM → Prop) : Prop :=
  OO_isNobody h0 v1 I (fun r_1 => ((¬ r_1 = 0 → OO_inside_16 h0 I K) ∧ (r_1 = 0 → OO_isNobody h0 v2 I (fun r_2 => ((r_2 = 0 → WO_canDivide (jr h0 6) (I (jr h0 0) 4) I (fun r_3 => ((¬ r_3 = 0 → (vp_in v2 24 ∧ WO_takeSingle (jr h0 6) (I (jr h0 0) 4) (I (jr (jr h0 1) 1) v2.toNatClampNeg) I (fun I_5 => WO_resolve (jr h0 6) (jr h0 0) I_5 (fun I_7 => (vp_in v1 24 ∧ (vp_in (I_7 (jr (jr h0 1) 1) v1.toNatClampNeg) 24 ∧ K (I_7 (jr (jr h0 6) 3) (I_7 (jr (jr h0 1) 1) v1.toNatClampNeg).toNatClampNeg) I_7)))))) ∧ (r_3 = 0 → OO_refuse h0 (-5 : Int32) I (fun r_8 I_9 => K r_8 I_9))))) ∧ (¬ r_2 = 0 → OO_inside_16 h0 I K))))))
set_option maxRecDepth 100000 in
set_option maxHeartbeats 4000000 in
theorem s_OO_inside {l : Launch} {E : jE} (ok : jOK E) (hE : E.2.2.2 = jLX) {h0 : Nat} {v1 : Int32} {v2 : Int32} (g_h0 : jOB E 10 h0) {I : jM} {K : Int32 → jM → Prop} (h : OO_inside h0 v1 v2 I K) : jSi l E ⟨"OutOrder", "inside", "(II)I"⟩ prog_1_method_27_code 3 (some .int) 4 90 [.ref (E.2.2.1 h0), .int v1, .int v2] I K := by
  refine jS_ofF (own := "OutOrder") (by decide +kernel) rfl ok (Nat.le_of_ble_eq_true rfl) (fun Z _ C hr => ?_)
  show jJ Z E 3 (jQi Z E K) 0 [(0, .ref (E.2.2.1 h0)), (1, .int v1), (2, .int v2)] [] I
  unfold OO_inside at h
  refine j_aload_n C d_OO_inside_0 rfl 0 rfl ?_
  refine j_iload_n C d_OO_inside_1 rfl 1 rfl ?_
  refine j_callVi (As := [.int v1]) C jcl_OO cw_OO_83 w_363 ws_4 g_h0 rfl rfl (by decide) (by decide) (Nat.le_of_ble_eq_true rfl) d_OO_inside_2 (s_OO_isNobody C.ok hE g_h0 h) (fun r_1 I2 h => ?_)
  obtain ⟨rfl, h⟩ := h
  refine j_if_ne C d_OO_inside_5 (tgt := 16) (by decide) (fun c5 => ?_) (fun c5 => ?_)
  · have h := h.1 c5
    refine j_lv [0] rfl ?_
    exact k_OO_inside_16 C hr hE h0 I g_h0 h
  · have h := h.2 c5
    refine j_aload_n C d_OO_inside_8 rfl 0 rfl ?_
    refine j_iload_n C d_OO_inside_9 rfl 2 rfl ?_
    refine j_callVi (As := [.int v2]) C jcl_OO cw_OO_83 w_363 ws_4 g_h0 rfl rfl (by decide) (by decide) (Nat.le_of_ble_eq_true rfl) d_OO_inside_10 (s_OO_isNobody C.ok hE g_h0 h) (fun r_2 I2 h => ?_)
    obtain ⟨rfl, h⟩ := h
    refine j_if_eq C d_OO_inside_13 (tgt := 22) (by decide) (fun c13 => ?_) (fun c13 => ?_)
    · have h := h.1 c13
      refine j_aload_n C d_OO_inside_22 rfl 0 rfl ?_
      refine fg_OO_54 C g_h0 d_OO_inside_23 ?_
      refine j_aload_n C d_OO_inside_26 rfl 0 rfl ?_
      refine fg_OO_12 C g_h0 d_OO_inside_27 ?_
      refine fg_OO_104 C (sh_OO_0 hE g_h0) d_OO_inside_30 ?_
      refine j_callVi (As := [.int (I (jr h0 0) 4)]) C jcl_WO cw_OO_240 w_678 w_679 (sh_OO_6 hE g_h0) rfl rfl (by decide) (by decide) (Nat.le_of_ble_eq_true rfl) d_OO_inside_33 (s_WO_canDivide C.ok hE (sh_OO_6 hE g_h0) h) (fun r_3 I2 h => ?_)
      obtain ⟨rfl, h⟩ := h
      refine j_if_ne C d_OO_inside_36 (tgt := 46) (by decide) (fun c36 => ?_) (fun c36 => ?_)
      · have h := h.1 c36
        refine j_aload_n C d_OO_inside_46 rfl 0 rfl ?_
        refine fg_OO_54 C g_h0 d_OO_inside_47 ?_
        refine j_aload_n C d_OO_inside_50 rfl 0 rfl ?_
        refine fg_OO_12 C g_h0 d_OO_inside_51 ?_
        refine fg_OO_104 C (sh_OO_0 hE g_h0) d_OO_inside_54 ?_
        refine j_aload_n C d_OO_inside_57 rfl 0 rfl ?_
        refine fg_OO_19 C g_h0 d_OO_inside_58 ?_
        refine fg_OO_130 C (sh_OO_1 hE g_h0) d_OO_inside_61 ?_
        refine j_iload_n C d_OO_inside_64 rfl 2 rfl ?_
        obtain ⟨hi, h⟩ := h
        refine j_iaload C (sh_RO_1 hE (sh_OO_1 hE g_h0)) hi d_OO_inside_65 ?_
        refine j_callVv (As := [.int (I (jr h0 0) 4), .int (I (jr (jr h0 1) 1) v2.toNatClampNeg)]) C jcl_WO cw_OO_252 w_694 w_695 (sh_OO_6 hE g_h0) rfl rfl (by decide) (by decide) (Nat.le_of_ble_eq_true rfl) d_OO_inside_66 (s_WO_takeSingle C.ok hE (sh_OO_6 hE g_h0) h) (fun I_5 h => ?_)
        refine j_aload_n C d_OO_inside_69 rfl 0 rfl ?_
        refine fg_OO_54 C g_h0 d_OO_inside_70 ?_
        refine j_aload_n C d_OO_inside_73 rfl 0 rfl ?_
        refine fg_OO_12 C g_h0 d_OO_inside_74 ?_
        refine j_callVv (As := [.ref (E.2.2.1 (jr h0 0))]) C jcl_WO cw_OO_246 w_686 w_687 (sh_OO_6 hE g_h0) rfl rfl (by decide) (by decide) (Nat.le_of_ble_eq_true rfl) d_OO_inside_77 (s_WO_resolve C.ok hE (sh_OO_6 hE g_h0) (sh_OO_0 hE g_h0) h) (fun I_7 h => ?_)
        refine j_aload_n C d_OO_inside_80 rfl 0 rfl ?_
        refine fg_OO_54 C g_h0 d_OO_inside_81 ?_
        refine fg_OO_249 C (sh_OO_6 hE g_h0) d_OO_inside_84 ?_
        refine j_aload_n C d_OO_inside_87 rfl 0 rfl ?_
        refine fg_OO_19 C g_h0 d_OO_inside_88 ?_
        refine fg_OO_130 C (sh_OO_1 hE g_h0) d_OO_inside_91 ?_
        refine j_iload_n C d_OO_inside_94 rfl 1 rfl ?_
        obtain ⟨hi, h⟩ := h
        refine j_iaload C (sh_RO_1 hE (sh_OO_1 hE g_h0)) hi d_OO_inside_95 ?_
        obtain ⟨hi, h⟩ := h
        refine j_iaload C (sh_WO_3 hE (sh_OO_6 hE g_h0)) hi d_OO_inside_96 ?_
        exact j_iret C hr d_OO_inside_97 h
      · have h := h.2 c36
        refine j_aload_n C d_OO_inside_39 rfl 0 rfl ?_
        refine j_bipush C d_OO_inside_40 ib_m5 ?_
        refine j_callVi (As := [.int (-5 : Int32)]) C jcl_OO cw_OO_73 w_352 ws_3 g_h0 rfl rfl (by decide) (by decide) (Nat.le_of_ble_eq_true rfl) d_OO_inside_42 (s_OO_refuse C.ok hE g_h0 h) (fun r_8 I_9 h => ?_)
        exact j_iret C hr d_OO_inside_45 h
    · have h := h.2 c13
      refine j_lv [0] rfl ?_
      exact k_OO_inside_16 C hr hE h0 I g_h0 h
theorem d_OO_isClean_0 : decode prog_1_method_14_code 0 = .ok (.aload_n 0, 1) := by decide +kernel
theorem d_OO_isClean_1 : decode prog_1_method_14_code 1 = .ok (.getfield 12, 3) := by decide +kernel
theorem d_OO_isClean_4 : decode prog_1_method_14_code 4 = .ok (.getfield 104, 3) := by decide +kernel
theorem d_OO_isClean_7 : decode prog_1_method_14_code 7 = .ok (.aload_n 0, 1) := by decide +kernel
theorem d_OO_isClean_8 : decode prog_1_method_14_code 8 = .ok (.getfield 12, 3) := by decide +kernel
theorem d_OO_isClean_11 : decode prog_1_method_14_code 11 = .ok (.getfield 159, 3) := by decide +kernel
theorem d_OO_isClean_14 : decode prog_1_method_14_code 14 = .ok (.invokestatic 162, 3) := by decide +kernel
theorem d_OO_isClean_17 : decode prog_1_method_14_code 17 = .ok (.ifCond .ne 7, 3) := by decide +kernel
theorem d_OO_isClean_20 : decode prog_1_method_14_code 20 = .ok (.iconst 1, 1) := by decide +kernel
theorem d_OO_isClean_21 : decode prog_1_method_14_code 21 = .ok (.goto 4, 3) := by decide +kernel
theorem d_OO_isClean_24 : decode prog_1_method_14_code 24 = .ok (.iconst 0, 1) := by decide +kernel
theorem d_OO_isClean_25 : decode prog_1_method_14_code 25 = .ok (.ireturn, 1) := by decide +kernel
/-- OutOrder.isClean()Z -/
def OO_isClean (h0 : Nat) (I : jM) (K : Int32 → Prop) : Prop :=
  RI_shortest (I (jr h0 0) 4) (jr (jr h0 0) 2) I (fun r_1 => ((¬ r_1 = 0 → K (0 : Int32)) ∧ (r_1 = 0 → K (1 : Int32))))
set_option maxRecDepth 100000 in
set_option maxHeartbeats 4000000 in
theorem s_OO_isClean {l : Launch} {E : jE} (ok : jOK E) (hE : E.2.2.2 = jLX) {h0 : Nat} (g_h0 : jOB E 10 h0) {I : jM} {K : Int32 → Prop} (h : OO_isClean h0 I K) : jSi l E ⟨"OutOrder", "isClean", "()Z"⟩ prog_1_method_14_code 1 (some .boolean) 3 77 [.ref (E.2.2.1 h0)] I (fun r I2 => I = I2 ∧ K r) := by
  refine jS_ofF (own := "OutOrder") (by decide +kernel) rfl ok (Nat.le_of_ble_eq_true rfl) (fun Z _ C hr => ?_)
  show jJ Z E 1 (jQi Z E (fun r I2 => I = I2 ∧ K r)) 0 [(0, .ref (E.2.2.1 h0))] [] I
  unfold OO_isClean at h
  refine j_aload_n C d_OO_isClean_0 rfl 0 rfl ?_
  refine fg_OO_12 C g_h0 d_OO_isClean_1 ?_
  refine fg_OO_104 C (sh_OO_0 hE g_h0) d_OO_isClean_4 ?_
  refine j_aload_n C d_OO_isClean_7 rfl 0 rfl ?_
  refine fg_OO_12 C g_h0 d_OO_isClean_8 ?_
  refine fg_OO_159 C (sh_OO_0 hE g_h0) d_OO_isClean_11 ?_
  refine j_callSi (As := [.int (I (jr h0 0) 4), .ref (E.2.2.1 (jr (jr h0 0) 2))]) C cw_OO_162 w_559 rfl rfl (by decide) (by decide) (Nat.le_of_ble_eq_true rfl) d_OO_isClean_14 (s_RI_shortest C.ok (((sh_TA_2 hE (sh_OO_0 hE g_h0))).self) h) (fun r_1 I2 h => ?_)
  obtain ⟨rfl, h⟩ := h
  refine j_if_ne C d_OO_isClean_17 (tgt := 24) (by decide) (fun c17 => ?_) (fun c17 => ?_)
  · have h := h.1 c17
    refine j_iconst C d_OO_isClean_24 ic_0 ?_
    exact j_zret C hr (by decide) d_OO_isClean_25 ⟨rfl, h⟩
  · have h := h.2 c17
    refine j_iconst C d_OO_isClean_20 ic_1 ?_
    refine j_goto C d_OO_isClean_21 (tgt := 25) (by decide) ?_
    exact j_zret C hr (by decide) d_OO_isClean_25 ⟨rfl, h⟩
theorem d_OO_least_0 : decode prog_1_method_16_code 0 = .ok (.iload_n 1, 1) := by decide +kernel
theorem d_OO_least_1 : decode prog_1_method_16_code 1 = .ok (.ifCond .eq 15, 3) := by decide +kernel
theorem d_OO_least_4 : decode prog_1_method_16_code 4 = .ok (.iload_n 1, 1) := by decide +kernel
theorem d_OO_least_5 : decode prog_1_method_16_code 5 = .ok (.iconst 1, 1) := by decide +kernel
theorem d_OO_least_6 : decode prog_1_method_16_code 6 = .ok (.if_icmp .eq 10, 3) := by decide +kernel
theorem d_OO_least_9 : decode prog_1_method_16_code 9 = .ok (.aload_n 0, 1) := by decide +kernel
theorem d_OO_least_10 : decode prog_1_method_16_code 10 = .ok (.bipush (-2), 2) := by decide +kernel
theorem d_OO_least_12 : decode prog_1_method_16_code 12 = .ok (.invokevirtual 73, 3) := by decide +kernel
theorem d_OO_least_15 : decode prog_1_method_16_code 15 = .ok (.ireturn, 1) := by decide +kernel
theorem d_OO_least_16 : decode prog_1_method_16_code 16 = .ok (.aload_n 0, 1) := by decide +kernel
theorem d_OO_least_17 : decode prog_1_method_16_code 17 = .ok (.getfield 12, 3) := by decide +kernel
theorem d_OO_least_20 : decode prog_1_method_16_code 20 = .ok (.getfield 104, 3) := by decide +kernel
theorem d_OO_least_23 : decode prog_1_method_16_code 23 = .ok (.bipush 12, 2) := by decide +kernel
theorem d_OO_least_25 : decode prog_1_method_16_code 25 = .ok (.if_icmp .le 10, 3) := by decide +kernel
theorem d_OO_least_28 : decode prog_1_method_16_code 28 = .ok (.aload_n 0, 1) := by decide +kernel
theorem d_OO_least_29 : decode prog_1_method_16_code 29 = .ok (.bipush (-6), 2) := by decide +kernel
theorem d_OO_least_31 : decode prog_1_method_16_code 31 = .ok (.invokevirtual 73, 3) := by decide +kernel
theorem d_OO_least_34 : decode prog_1_method_16_code 34 = .ok (.ireturn, 1) := by decide +kernel
theorem d_OO_least_35 : decode prog_1_method_16_code 35 = .ok (.aload_n 0, 1) := by decide +kernel
theorem d_OO_least_36 : decode prog_1_method_16_code 36 = .ok (.invokevirtual 168, 3) := by decide +kernel
theorem d_OO_least_39 : decode prog_1_method_16_code 39 = .ok (.astore_n 2, 1) := by decide +kernel
theorem d_OO_least_40 : decode prog_1_method_16_code 40 = .ok (.iload_n 1, 1) := by decide +kernel
theorem d_OO_least_41 : decode prog_1_method_16_code 41 = .ok (.ifCond .ne 20, 3) := by decide +kernel
theorem d_OO_least_44 : decode prog_1_method_16_code 44 = .ok (.aload_n 2, 1) := by decide +kernel
theorem d_OO_least_45 : decode prog_1_method_16_code 45 = .ok (.getfield 172, 3) := by decide +kernel
theorem d_OO_least_48 : decode prog_1_method_16_code 48 = .ok (.iconst 0, 1) := by decide +kernel
theorem d_OO_least_49 : decode prog_1_method_16_code 49 = .ok (.iaload, 1) := by decide +kernel
theorem d_OO_least_50 : decode prog_1_method_16_code 50 = .ok (.aload_n 0, 1) := by decide +kernel
theorem d_OO_least_51 : decode prog_1_method_16_code 51 = .ok (.getfield 12, 3) := by decide +kernel
theorem d_OO_least_54 : decode prog_1_method_16_code 54 = .ok (.invokevirtual 175, 3) := by decide +kernel
theorem d_OO_least_57 : decode prog_1_method_16_code 57 = .ok (.isub, 1) := by decide +kernel
theorem d_OO_least_58 : decode prog_1_method_16_code 58 = .ok (.goto 9, 3) := by decide +kernel
theorem d_OO_least_61 : decode prog_1_method_16_code 61 = .ok (.aload_n 2, 1) := by decide +kernel
theorem d_OO_least_62 : decode prog_1_method_16_code 62 = .ok (.getfield 178, 3) := by decide +kernel
theorem d_OO_least_65 : decode prog_1_method_16_code 65 = .ok (.iconst 0, 1) := by decide +kernel
theorem d_OO_least_66 : decode prog_1_method_16_code 66 = .ok (.iaload, 1) := by decide +kernel
theorem d_OO_least_67 : decode prog_1_method_16_code 67 = .ok (.ireturn, 1) := by decide +kernel
def OO_least_16 (h0 : Nat) (v1 : Int32) (I : jM) (K : Int32 → jM → Prop) : Prop :=
  (((I (jr h0 0) 4) ≤ (12 : Int32) → OO_knownMinima h0 I (fun r_1 I_2 => (r_1 ∈ jLX ∧ jk r_1 = 2 ∧ ((¬ v1 = 0 → (vp_in (0 : Int32) 4096 ∧ K (I_2 (jr r_1 1) (0 : Int32).toNatClampNeg) I_2)) ∧ (v1 = 0 → (vp_in (0 : Int32) 4096 ∧ TA_pairs (jr h0 0) I_2 (fun r_5 => K ((I_2 (jr r_1 0) (0 : Int32).toNatClampNeg) - r_5) I_2))))))) ∧ (¬ (I (jr h0 0) 4) ≤ (12 : Int32) → OO_refuse h0 (-6 : Int32) I (fun r_6 I_7 => K r_6 I_7)))
set_option maxRecDepth 100000 in
set_option maxHeartbeats 4000000 in
theorem k_OO_least_16 {Z : jZ} {E : jE} (C : jC Z E prog_1_method_16_code 3 "OutOrder" 4 95) (hr : (jZh Z).sig.returnType = (some .int)) (hE : E.2.2.2 = jLX)  (h0 : Nat) (v1 : Int32) (I : jM) (g_h0 : jOB E 10 h0) {K : Int32 → jM → Prop} (h : OO_least_16 h0 v1 I K) : jJ Z E 3 (jQi Z E K) 16 [(0, .ref (E.2.2.1 h0)), (1, .int v1)] [] I := by
  unfold OO_least_16 at h
  refine j_aload_n C d_OO_least_16 rfl 0 rfl ?_
  refine fg_OO_12 C g_h0 d_OO_least_17 ?_
  refine fg_OO_104 C (sh_OO_0 hE g_h0) d_OO_least_20 ?_
  refine j_bipush C d_OO_least_23 ib_12 ?_
  refine j_icmp_le C d_OO_least_25 (tgt := 35) (by decide) (fun c25 => ?_) (fun c25 => ?_)
  · have h := h.1 c25
    refine j_aload_n C d_OO_least_35 rfl 0 rfl ?_
    refine j_callVr (As := []) C jcl_OO cw_OO_168 w_420 ws_6 g_h0 rfl rfl (by decide) (by decide) (Nat.le_of_ble_eq_true rfl) d_OO_least_36 (s_OO_knownMinima C.ok hE g_h0 h) (fun r_1 I_2 h => ?_)
    obtain ⟨q_3, q_4, h⟩ := h
    refine j_astore_n C d_OO_least_39 rfl (by decide) (lv' := [(2, .ref (E.2.2.1 r_1)), (0, .ref (E.2.2.1 h0)), (1, .int v1)]) rfl ?_
    refine j_iload_n C d_OO_least_40 rfl 2 rfl ?_
    refine j_if_ne C d_OO_least_41 (tgt := 61) (by decide) (fun c41 => ?_) (fun c41 => ?_)
    · have h := h.1 c41
      refine j_aload_n C d_OO_least_61 rfl 0 rfl ?_
      refine fg_OO_178 C (⟨hE ▸ q_3, q_4⟩ : jOB E 2 r_1) d_OO_least_62 ?_
      refine j_iconst C d_OO_least_65 ic_0 ?_
      obtain ⟨hi, h⟩ := h
      refine j_iaload C (sh_LE_1 hE (⟨hE ▸ q_3, q_4⟩ : jOB E 2 r_1)) hi d_OO_least_66 ?_
      exact j_iret C hr d_OO_least_67 h
    · have h := h.2 c41
      refine j_aload_n C d_OO_least_44 rfl 0 rfl ?_
      refine fg_OO_172 C (⟨hE ▸ q_3, q_4⟩ : jOB E 2 r_1) d_OO_least_45 ?_
      refine j_iconst C d_OO_least_48 ic_0 ?_
      obtain ⟨hi, h⟩ := h
      refine j_iaload C (sh_LE_0 hE (⟨hE ▸ q_3, q_4⟩ : jOB E 2 r_1)) hi d_OO_least_49 ?_
      refine j_aload_n C d_OO_least_50 rfl 1 rfl ?_
      refine fg_OO_12 C g_h0 d_OO_least_51 ?_
      refine j_callVi (As := []) C jcl_TA cw_OO_175 w_576 w_577 (sh_OO_0 hE g_h0) rfl rfl (by decide) (by decide) (Nat.le_of_ble_eq_true rfl) d_OO_least_54 (s_TA_pairs C.ok hE (sh_OO_0 hE g_h0) h) (fun r_5 I2 h => ?_)
      obtain ⟨rfl, h⟩ := h
      refine j_isub C d_OO_least_57 ?_
      refine j_goto C d_OO_least_58 (tgt := 67) (by decide) ?_
      exact j_iret C hr d_OO_least_67 h
  · have h := h.2 c25
    refine j_aload_n C d_OO_least_28 rfl 0 rfl ?_
    refine j_bipush C d_OO_least_29 ib_m6 ?_
    refine j_callVi (As := [.int (-6 : Int32)]) C jcl_OO cw_OO_73 w_352 ws_3 g_h0 rfl rfl (by decide) (by decide) (Nat.le_of_ble_eq_true rfl) d_OO_least_31 (s_OO_refuse C.ok hE g_h0 h) (fun r_6 I_7 h => ?_)
    exact j_iret C hr d_OO_least_34 h
/-- OutOrder.least(I)I -/
def OO_least (h0 : Nat) (v1 : Int32) (I : jM) (K : Int32 → jM → Prop) : Prop :=
  ((v1 = 0 → OO_least_16 h0 v1 I K) ∧ (¬ v1 = 0 → ((v1 = (1 : Int32) → OO_least_16 h0 v1 I K) ∧ (¬ v1 = (1 : Int32) → OO_refuse h0 (-2 : Int32) I (fun r_1 I_2 => K r_1 I_2)))))
set_option maxRecDepth 100000 in
set_option maxHeartbeats 4000000 in
theorem s_OO_least {l : Launch} {E : jE} (ok : jOK E) (hE : E.2.2.2 = jLX) {h0 : Nat} {v1 : Int32} (g_h0 : jOB E 10 h0) {I : jM} {K : Int32 → jM → Prop} (h : OO_least h0 v1 I K) : jSi l E ⟨"OutOrder", "least", "(I)I"⟩ prog_1_method_16_code 3 (some .int) 4 95 [.ref (E.2.2.1 h0), .int v1] I K := by
  refine jS_ofF (own := "OutOrder") (by decide +kernel) rfl ok (Nat.le_of_ble_eq_true rfl) (fun Z _ C hr => ?_)
  show jJ Z E 3 (jQi Z E K) 0 [(0, .ref (E.2.2.1 h0)), (1, .int v1)] [] I
  unfold OO_least at h
  refine j_iload_n C d_OO_least_0 rfl 1 rfl ?_
  refine j_if_eq C d_OO_least_1 (tgt := 16) (by decide) (fun c1 => ?_) (fun c1 => ?_)
  · have h := h.1 c1
    refine j_lv [0, 1] rfl ?_
    exact k_OO_least_16 C hr hE h0 v1 I g_h0 h
  · have h := h.2 c1
    refine j_iload_n C d_OO_least_4 rfl 1 rfl ?_
    refine j_iconst C d_OO_least_5 ic_1 ?_
    refine j_icmp_eq C d_OO_least_6 (tgt := 16) (by decide) (fun c6 => ?_) (fun c6 => ?_)
    · have h := h.1 c6
      refine j_lv [0, 1] rfl ?_
      exact k_OO_least_16 C hr hE h0 v1 I g_h0 h
    · have h := h.2 c6
      refine j_aload_n C d_OO_least_9 rfl 0 rfl ?_
      refine j_bipush C d_OO_least_10 ib_m2 ?_
      refine j_callVi (As := [.int (-2 : Int32)]) C jcl_OO cw_OO_73 w_352 ws_3 g_h0 rfl rfl (by decide) (by decide) (Nat.le_of_ble_eq_true rfl) d_OO_least_12 (s_OO_refuse C.ok hE g_h0 h) (fun r_1 I_2 h => ?_)
      exact j_iret C hr d_OO_least_15 h
theorem d_OO_number_0 : decode prog_1_method_4_code 0 = .ok (.aload_n 0, 1) := by decide +kernel
theorem d_OO_number_1 : decode prog_1_method_4_code 1 = .ok (.iload_n 1, 1) := by decide +kernel
theorem d_OO_number_2 : decode prog_1_method_4_code 2 = .ok (.invokevirtual 83, 3) := by decide +kernel
theorem d_OO_number_5 : decode prog_1_method_4_code 5 = .ok (.ifCond .ne 11, 3) := by decide +kernel
theorem d_OO_number_8 : decode prog_1_method_4_code 8 = .ok (.aload_n 0, 1) := by decide +kernel
theorem d_OO_number_9 : decode prog_1_method_4_code 9 = .ok (.iload_n 2, 1) := by decide +kernel
theorem d_OO_number_10 : decode prog_1_method_4_code 10 = .ok (.invokevirtual 83, 3) := by decide +kernel
theorem d_OO_number_13 : decode prog_1_method_4_code 13 = .ok (.ifCond .eq 9, 3) := by decide +kernel
theorem d_OO_number_16 : decode prog_1_method_4_code 16 = .ok (.aload_n 0, 1) := by decide +kernel
theorem d_OO_number_17 : decode prog_1_method_4_code 17 = .ok (.iconst (-1), 1) := by decide +kernel
theorem d_OO_number_18 : decode prog_1_method_4_code 18 = .ok (.invokevirtual 73, 3) := by decide +kernel
theorem d_OO_number_21 : decode prog_1_method_4_code 21 = .ok (.ireturn, 1) := by decide +kernel
theorem d_OO_number_22 : decode prog_1_method_4_code 22 = .ok (.aload_n 0, 1) := by decide +kernel
theorem d_OO_number_23 : decode prog_1_method_4_code 23 = .ok (.getfield 12, 3) := by decide +kernel
theorem d_OO_number_26 : decode prog_1_method_4_code 26 = .ok (.getfield 86, 3) := by decide +kernel
theorem d_OO_number_29 : decode prog_1_method_4_code 29 = .ok (.iload_n 1, 1) := by decide +kernel
theorem d_OO_number_30 : decode prog_1_method_4_code 30 = .ok (.aaload, 1) := by decide +kernel
theorem d_OO_number_31 : decode prog_1_method_4_code 31 = .ok (.iload_n 2, 1) := by decide +kernel
theorem d_OO_number_32 : decode prog_1_method_4_code 32 = .ok (.iaload, 1) := by decide +kernel
theorem d_OO_number_33 : decode prog_1_method_4_code 33 = .ok (.ireturn, 1) := by decide +kernel
def OO_number_16 (h0 : Nat) (I : jM) (K : Int32 → jM → Prop) : Prop :=
  OO_refuse h0 (-1 : Int32) I (fun r_1 I_2 => K r_1 I_2)
set_option maxRecDepth 100000 in
set_option maxHeartbeats 4000000 in
theorem k_OO_number_16 {Z : jZ} {E : jE} (C : jC Z E prog_1_method_4_code 3 "OutOrder" 1 22) (hr : (jZh Z).sig.returnType = (some .int)) (hE : E.2.2.2 = jLX)  (h0 : Nat) (I : jM) (g_h0 : jOB E 10 h0) {K : Int32 → jM → Prop} (h : OO_number_16 h0 I K) : jJ Z E 3 (jQi Z E K) 16 [(0, .ref (E.2.2.1 h0))] [] I := by
  unfold OO_number_16 at h
  refine j_aload_n C d_OO_number_16 rfl 0 rfl ?_
  refine j_iconst C d_OO_number_17 ic_m1 ?_
  refine j_callVi (As := [.int (-1 : Int32)]) C jcl_OO cw_OO_73 w_352 ws_3 g_h0 rfl rfl (by decide) (by decide) (Nat.le_of_ble_eq_true rfl) d_OO_number_18 (s_OO_refuse C.ok hE g_h0 h) (fun r_1 I_2 h => ?_)
  exact j_iret C hr d_OO_number_21 h
/-- OutOrder.number(II)I -/
def OO_number (h0 : Nat) (v1 : Int32) (v2 : Int32) (I : jM) (K : Int32 → jM → Prop) : Prop :=
  OO_isNobody h0 v1 I (fun r_1 => ((¬ r_1 = 0 → OO_number_16 h0 I K) ∧ (r_1 = 0 → OO_isNobody h0 v2 I (fun r_2 => ((r_2 = 0 → (vp_in v1 24 ∧ (vp_in v2 24 ∧ K (I (jw (jr (jr h0 0) 1) v1.toNatClampNeg) v2.toNatClampNeg) I))) ∧ (¬ r_2 = 0 → OO_number_16 h0 I K))))))
set_option maxRecDepth 100000 in
set_option maxHeartbeats 4000000 in
theorem s_OO_number {l : Launch} {E : jE} (ok : jOK E) (hE : E.2.2.2 = jLX) {h0 : Nat} {v1 : Int32} {v2 : Int32} (g_h0 : jOB E 10 h0) {I : jM} {K : Int32 → jM → Prop} (h : OO_number h0 v1 v2 I K) : jSi l E ⟨"OutOrder", "number", "(II)I"⟩ prog_1_method_4_code 3 (some .int) 1 22 [.ref (E.2.2.1 h0), .int v1, .int v2] I K := by
  refine jS_ofF (own := "OutOrder") (by decide +kernel) rfl ok (Nat.le_of_ble_eq_true rfl) (fun Z _ C hr => ?_)
  show jJ Z E 3 (jQi Z E K) 0 [(0, .ref (E.2.2.1 h0)), (1, .int v1), (2, .int v2)] [] I
  unfold OO_number at h
  refine j_aload_n C d_OO_number_0 rfl 0 rfl ?_
  refine j_iload_n C d_OO_number_1 rfl 1 rfl ?_
  refine j_callVi (As := [.int v1]) C jcl_OO cw_OO_83 w_363 ws_4 g_h0 rfl rfl (by decide) (by decide) (Nat.le_of_ble_eq_true rfl) d_OO_number_2 (s_OO_isNobody C.ok hE g_h0 h) (fun r_1 I2 h => ?_)
  obtain ⟨rfl, h⟩ := h
  refine j_if_ne C d_OO_number_5 (tgt := 16) (by decide) (fun c5 => ?_) (fun c5 => ?_)
  · have h := h.1 c5
    refine j_lv [0] rfl ?_
    exact k_OO_number_16 C hr hE h0 I g_h0 h
  · have h := h.2 c5
    refine j_aload_n C d_OO_number_8 rfl 0 rfl ?_
    refine j_iload_n C d_OO_number_9 rfl 2 rfl ?_
    refine j_callVi (As := [.int v2]) C jcl_OO cw_OO_83 w_363 ws_4 g_h0 rfl rfl (by decide) (by decide) (Nat.le_of_ble_eq_true rfl) d_OO_number_10 (s_OO_isNobody C.ok hE g_h0 h) (fun r_2 I2 h => ?_)
    obtain ⟨rfl, h⟩ := h
    refine j_if_eq C d_OO_number_13 (tgt := 22) (by decide) (fun c13 => ?_) (fun c13 => ?_)
    · have h := h.1 c13
      refine j_aload_n C d_OO_number_22 rfl 0 rfl ?_
      refine fg_OO_12 C g_h0 d_OO_number_23 ?_
      refine fg_OO_86 C (sh_OO_0 hE g_h0) d_OO_number_26 ?_
      refine j_iload_n C d_OO_number_29 rfl 1 rfl ?_
      obtain ⟨hi_3, h⟩ := h
      refine j_aaload C (sh_TA_1 hE (sh_OO_0 hE g_h0)) hi_3 d_OO_number_30 ?_
      refine j_iload_n C d_OO_number_31 rfl 2 rfl ?_
      obtain ⟨hi, h⟩ := h
      refine j_iaload C (sr_24_24 hE (sh_TA_1 hE (sh_OO_0 hE g_h0)) hi_3) hi d_OO_number_32 ?_
      exact j_iret C hr d_OO_number_33 h
    · have h := h.2 c13
      refine j_lv [0] rfl ?_
      exact k_OO_number_16 C hr hE h0 I g_h0 h
theorem d_OO_orderChanged_0 : decode prog_1_method_35_code 0 = .ok (.aload_n 0, 1) := by decide +kernel
theorem d_OO_orderChanged_1 : decode prog_1_method_35_code 1 = .ok (.iconst 0, 1) := by decide +kernel
theorem d_OO_orderChanged_2 : decode prog_1_method_35_code 2 = .ok (.putfield 280, 3) := by decide +kernel
theorem d_OO_orderChanged_5 : decode prog_1_method_35_code 5 = .ok (.aload_n 0, 1) := by decide +kernel
theorem d_OO_orderChanged_6 : decode prog_1_method_35_code 6 = .ok (.getfield 54, 3) := by decide +kernel
theorem d_OO_orderChanged_9 : decode prog_1_method_35_code 9 = .ok (.invokevirtual 283, 3) := by decide +kernel
theorem d_OO_orderChanged_12 : decode prog_1_method_35_code 12 = .ok (.return_, 1) := by decide +kernel
/-- OutOrder.orderChanged()V -/
def OO_orderChanged (h0 : Nat) (I : jM) (K : jM → Prop) : Prop :=
  (∀ I_1 : jM, I_1 = jwr I h0 9 (0 : Int32) → WO_forget (jr h0 6) I_1 (fun I_3 => K I_3))
set_option maxRecDepth 100000 in
set_option maxHeartbeats 4000000 in
theorem s_OO_orderChanged {l : Launch} {E : jE} (ok : jOK E) (hE : E.2.2.2 = jLX) {h0 : Nat} (g_h0 : jOB E 10 h0) {I : jM} {K : jM → Prop} (h : OO_orderChanged h0 I K) : jSv l E ⟨"OutOrder", "orderChanged", "()V"⟩ prog_1_method_35_code 1 none 1 20 [.ref (E.2.2.1 h0)] I K := by
  refine jS_ofF (own := "OutOrder") (by decide +kernel) rfl ok (Nat.le_of_ble_eq_true rfl) (fun Z _ C hr => ?_)
  show jJ Z E 1 (jQv Z E K) 0 [(0, .ref (E.2.2.1 h0))] [] I
  unfold OO_orderChanged at h
  refine j_aload_n C d_OO_orderChanged_0 rfl 0 rfl ?_
  refine j_iconst C d_OO_orderChanged_1 ic_0 ?_
  refine fp_OO_280 C (by decide) (by decide) g_h0 d_OO_orderChanged_2 ?_
  have h := h _ rfl
  generalize eI_1 : (jwr I h0 9 (0 : Int32) : jM) = I_1 at h ⊢
  refine j_aload_n C d_OO_orderChanged_5 rfl 0 rfl ?_
  refine fg_OO_54 C g_h0 d_OO_orderChanged_6 ?_
  refine j_callVv (As := []) C jcl_WO cw_OO_283 w_309 w_310 (sh_OO_6 hE g_h0) rfl rfl (by decide) (by decide) (Nat.le_of_ble_eq_true rfl) d_OO_orderChanged_9 (s_WO_forget C.ok (sh_OO_6 hE g_h0) h) (fun I_3 h => ?_)
  exact j_vret C hr d_OO_orderChanged_12 h
theorem d_OO_numbersChanged_0 : decode prog_1_method_34_code 0 = .ok (.aload_n 0, 1) := by decide +kernel
theorem d_OO_numbersChanged_1 : decode prog_1_method_34_code 1 = .ok (.iconst 0, 1) := by decide +kernel
theorem d_OO_numbersChanged_2 : decode prog_1_method_34_code 2 = .ok (.putfield 276, 3) := by decide +kernel
theorem d_OO_numbersChanged_5 : decode prog_1_method_34_code 5 = .ok (.aload_n 0, 1) := by decide +kernel
theorem d_OO_numbersChanged_6 : decode prog_1_method_34_code 6 = .ok (.getfield 47, 3) := by decide +kernel
theorem d_OO_numbersChanged_9 : decode prog_1_method_34_code 9 = .ok (.aload_n 0, 1) := by decide +kernel
theorem d_OO_numbersChanged_10 : decode prog_1_method_34_code 10 = .ok (.getfield 12, 3) := by decide +kernel
theorem d_OO_numbersChanged_13 : decode prog_1_method_34_code 13 = .ok (.invokevirtual 181, 3) := by decide +kernel
theorem d_OO_numbersChanged_16 : decode prog_1_method_34_code 16 = .ok (.aload_n 0, 1) := by decide +kernel
theorem d_OO_numbersChanged_17 : decode prog_1_method_34_code 17 = .ok (.invokevirtual 111, 3) := by decide +kernel
theorem d_OO_numbersChanged_20 : decode prog_1_method_34_code 20 = .ok (.return_, 1) := by decide +kernel
/-- OutOrder.numbersChanged()V -/
def OO_numbersChanged (h0 : Nat) (I : jM) (K : jM → Prop) : Prop :=
  (∀ I_1 : jM, I_1 = jwr I h0 10 (0 : Int32) → GO_restart (jr h0 5) (jr h0 0) I_1 (fun I_3 => OO_orderChanged h0 I_3 (fun I_5 => K I_5)))
set_option maxRecDepth 100000 in
set_option maxHeartbeats 4000000 in
theorem s_OO_numbersChanged {l : Launch} {E : jE} (ok : jOK E) (hE : E.2.2.2 = jLX) {h0 : Nat} (g_h0 : jOB E 10 h0) {I : jM} {K : jM → Prop} (h : OO_numbersChanged h0 I K) : jSv l E ⟨"OutOrder", "numbersChanged", "()V"⟩ prog_1_method_34_code 1 none 2 43 [.ref (E.2.2.1 h0)] I K := by
  refine jS_ofF (own := "OutOrder") (by decide +kernel) rfl ok (Nat.le_of_ble_eq_true rfl) (fun Z _ C hr => ?_)
  show jJ Z E 1 (jQv Z E K) 0 [(0, .ref (E.2.2.1 h0))] [] I
  unfold OO_numbersChanged at h
  refine j_aload_n C d_OO_numbersChanged_0 rfl 0 rfl ?_
  refine j_iconst C d_OO_numbersChanged_1 ic_0 ?_
  refine fp_OO_276 C (by decide) (by decide) g_h0 d_OO_numbersChanged_2 ?_
  have h := h _ rfl
  generalize eI_1 : (jwr I h0 10 (0 : Int32) : jM) = I_1 at h ⊢
  refine j_aload_n C d_OO_numbersChanged_5 rfl 0 rfl ?_
  refine fg_OO_47 C g_h0 d_OO_numbersChanged_6 ?_
  refine j_aload_n C d_OO_numbersChanged_9 rfl 0 rfl ?_
  refine fg_OO_12 C g_h0 d_OO_numbersChanged_10 ?_
  refine j_callVv (As := [.ref (E.2.2.1 (jr h0 0))]) C jcl_GO cw_OO_181 w_297 w_298 (sh_OO_5 hE g_h0) rfl rfl (by decide) (by decide) (Nat.le_of_ble_eq_true rfl) d_OO_numbersChanged_13 (s_GO_restart C.ok hE (sh_OO_5 hE g_h0) (sh_OO_0 hE g_h0) h) (fun I_3 h => ?_)
  refine j_aload_n C d_OO_numbersChanged_16 rfl 0 rfl ?_
  refine j_callVv (As := []) C jcl_OO cw_OO_111 w_306 ws_2 g_h0 rfl rfl (by decide) (by decide) (Nat.le_of_ble_eq_true rfl) d_OO_numbersChanged_17 (s_OO_orderChanged C.ok hE g_h0 h) (fun I_5 h => ?_)
  exact j_vret C hr d_OO_numbersChanged_20 h
