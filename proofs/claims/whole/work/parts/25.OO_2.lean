theorem d_OO_table_0 : decode prog_1_method_2_code 0 = .ok (.iload_n 1, 1) := by decide +kernel
theorem d_OO_table_1 : decode prog_1_method_2_code 1 = .ok (.iconst 1, 1) := by decide +kernel
theorem d_OO_table_2 : decode prog_1_method_2_code 2 = .ok (.if_icmp .lt 8, 3) := by decide +kernel
theorem d_OO_table_5 : decode prog_1_method_2_code 5 = .ok (.iload_n 2, 1) := by decide +kernel
theorem d_OO_table_6 : decode prog_1_method_2_code 6 = .ok (.iconst 2, 1) := by decide +kernel
theorem d_OO_table_7 : decode prog_1_method_2_code 7 = .ok (.if_icmp .ge 10, 3) := by decide +kernel
theorem d_OO_table_10 : decode prog_1_method_2_code 10 = .ok (.aload_n 0, 1) := by decide +kernel
theorem d_OO_table_11 : decode prog_1_method_2_code 11 = .ok (.bipush (-4), 2) := by decide +kernel
theorem d_OO_table_13 : decode prog_1_method_2_code 13 = .ok (.invokevirtual 73, 3) := by decide +kernel
theorem d_OO_table_16 : decode prog_1_method_2_code 16 = .ok (.ireturn, 1) := by decide +kernel
theorem d_OO_table_17 : decode prog_1_method_2_code 17 = .ok (.iload_n 1, 1) := by decide +kernel
theorem d_OO_table_18 : decode prog_1_method_2_code 18 = .ok (.bipush 24, 2) := by decide +kernel
theorem d_OO_table_20 : decode prog_1_method_2_code 20 = .ok (.if_icmp .gt 10, 3) := by decide +kernel
theorem d_OO_table_23 : decode prog_1_method_2_code 23 = .ok (.iload_n 2, 1) := by decide +kernel
theorem d_OO_table_24 : decode prog_1_method_2_code 24 = .ok (.sipush 32749, 3) := by decide +kernel
theorem d_OO_table_27 : decode prog_1_method_2_code 27 = .ok (.if_icmp .le 10, 3) := by decide +kernel
theorem d_OO_table_30 : decode prog_1_method_2_code 30 = .ok (.aload_n 0, 1) := by decide +kernel
theorem d_OO_table_31 : decode prog_1_method_2_code 31 = .ok (.bipush (-6), 2) := by decide +kernel
theorem d_OO_table_33 : decode prog_1_method_2_code 33 = .ok (.invokevirtual 73, 3) := by decide +kernel
theorem d_OO_table_36 : decode prog_1_method_2_code 36 = .ok (.ireturn, 1) := by decide +kernel
theorem d_OO_table_37 : decode prog_1_method_2_code 37 = .ok (.iload_n 2, 1) := by decide +kernel
theorem d_OO_table_38 : decode prog_1_method_2_code 38 = .ok (.invokestatic 77, 3) := by decide +kernel
theorem d_OO_table_41 : decode prog_1_method_2_code 41 = .ok (.ifCond .ne 10, 3) := by decide +kernel
theorem d_OO_table_44 : decode prog_1_method_2_code 44 = .ok (.aload_n 0, 1) := by decide +kernel
theorem d_OO_table_45 : decode prog_1_method_2_code 45 = .ok (.bipush (-2), 2) := by decide +kernel
theorem d_OO_table_47 : decode prog_1_method_2_code 47 = .ok (.invokevirtual 73, 3) := by decide +kernel
theorem d_OO_table_50 : decode prog_1_method_2_code 50 = .ok (.ireturn, 1) := by decide +kernel
theorem d_OO_table_51 : decode prog_1_method_2_code 51 = .ok (.aload_n 0, 1) := by decide +kernel
theorem d_OO_table_52 : decode prog_1_method_2_code 52 = .ok (.iload_n 1, 1) := by decide +kernel
theorem d_OO_table_53 : decode prog_1_method_2_code 53 = .ok (.iload_n 2, 1) := by decide +kernel
theorem d_OO_table_54 : decode prog_1_method_2_code 54 = .ok (.invokevirtual 69, 3) := by decide +kernel
theorem d_OO_table_57 : decode prog_1_method_2_code 57 = .ok (.iconst 1, 1) := by decide +kernel
theorem d_OO_table_58 : decode prog_1_method_2_code 58 = .ok (.ireturn, 1) := by decide +kernel
def OO_table_10 (h0 : Nat) (I : jM) (K : Int32 → jM → Prop) : Prop :=
  OO_refuse h0 (-4 : Int32) I (fun r_1 I_2 => K r_1 I_2)
set_option maxRecDepth 100000 in
set_option maxHeartbeats 4000000 in
theorem k_OO_table_10 {Z : jZ} {E : jE} (C : jC Z E prog_1_method_2_code 3 "OutOrder" 4 85) (hr : (jZh Z).sig.returnType = (some .int)) (hE : E.2.2.2 = jLX)  (h0 : Nat) (I : jM) (g_h0 : jOB E 10 h0) {K : Int32 → jM → Prop} (h : OO_table_10 h0 I K) : jJ Z E 3 (jQi Z E K) 10 [(0, .ref (E.2.2.1 h0))] [] I := by
  unfold OO_table_10 at h
  refine j_aload_n C d_OO_table_10 rfl 0 rfl ?_
  refine j_bipush C d_OO_table_11 ib_m4 ?_
  refine j_callVi (As := [.int (-4 : Int32)]) C jcl_OO cw_OO_73 w_352 ws_3 g_h0 rfl rfl (by decide) (by decide) (Nat.le_of_ble_eq_true rfl) d_OO_table_13 (s_OO_refuse C.ok hE g_h0 h) (fun r_1 I_2 h => ?_)
  exact j_iret C hr d_OO_table_16 h
def OO_table_30 (h0 : Nat) (I : jM) (K : Int32 → jM → Prop) : Prop :=
  OO_refuse h0 (-6 : Int32) I (fun r_1 I_2 => K r_1 I_2)
set_option maxRecDepth 100000 in
set_option maxHeartbeats 4000000 in
theorem k_OO_table_30 {Z : jZ} {E : jE} (C : jC Z E prog_1_method_2_code 3 "OutOrder" 4 85) (hr : (jZh Z).sig.returnType = (some .int)) (hE : E.2.2.2 = jLX)  (h0 : Nat) (I : jM) (g_h0 : jOB E 10 h0) {K : Int32 → jM → Prop} (h : OO_table_30 h0 I K) : jJ Z E 3 (jQi Z E K) 30 [(0, .ref (E.2.2.1 h0))] [] I := by
  unfold OO_table_30 at h
  refine j_aload_n C d_OO_table_30 rfl 0 rfl ?_
  refine j_bipush C d_OO_table_31 ib_m6 ?_
  refine j_callVi (As := [.int (-6 : Int32)]) C jcl_OO cw_OO_73 w_352 ws_3 g_h0 rfl rfl (by decide) (by decide) (Nat.le_of_ble_eq_true rfl) d_OO_table_33 (s_OO_refuse C.ok hE g_h0 h) (fun r_1 I_2 h => ?_)
  exact j_iret C hr d_OO_table_36 h
/-- OutOrder.table(II)I -/
def OO_table (h0 : Nat) (v1 : Int32) (v2 : Int32) (I : jM) (K : Int32 → jM → Prop) : Prop :=
  ((v1 < (1 : Int32) → OO_table_10 h0 I K) ∧ (¬ v1 < (1 : Int32) → (((2 : Int32) ≤ v2 → (((24 : Int32) < v1 → OO_table_30 h0 I K) ∧ (¬ (24 : Int32) < v1 → ((v2 ≤ (32749 : Int32) → MO_isPrime v2 I (fun r_1 => ((¬ r_1 = 0 → OO_startAnew h0 v1 v2 I (fun I_3 => K (1 : Int32) I_3)) ∧ (r_1 = 0 → OO_refuse h0 (-2 : Int32) I (fun r_4 I_5 => K r_4 I_5))))) ∧ (¬ v2 ≤ (32749 : Int32) → OO_table_30 h0 I K))))) ∧ (¬ (2 : Int32) ≤ v2 → OO_table_10 h0 I K))))
set_option maxRecDepth 100000 in
set_option maxHeartbeats 4000000 in
theorem s_OO_table {l : Launch} {E : jE} (ok : jOK E) (hE : E.2.2.2 = jLX) {h0 : Nat} {v1 : Int32} {v2 : Int32} (g_h0 : jOB E 10 h0) {I : jM} {K : Int32 → jM → Prop} (h : OO_table h0 v1 v2 I K) : jSi l E ⟨"OutOrder", "table", "(II)I"⟩ prog_1_method_2_code 3 (some .int) 4 85 [.ref (E.2.2.1 h0), .int v1, .int v2] I K := by
  refine jS_ofF (own := "OutOrder") (by decide +kernel) rfl ok (Nat.le_of_ble_eq_true rfl) (fun Z _ C hr => ?_)
  show jJ Z E 3 (jQi Z E K) 0 [(0, .ref (E.2.2.1 h0)), (1, .int v1), (2, .int v2)] [] I
  unfold OO_table at h
  refine j_iload_n C d_OO_table_0 rfl 1 rfl ?_
  refine j_iconst C d_OO_table_1 ic_1 ?_
  refine j_icmp_lt C d_OO_table_2 (tgt := 10) (by decide) (fun c2 => ?_) (fun c2 => ?_)
  · have h := h.1 c2
    refine j_lv [0] rfl ?_
    exact k_OO_table_10 C hr hE h0 I g_h0 h
  · have h := h.2 c2
    refine j_iload_n C d_OO_table_5 rfl 2 rfl ?_
    refine j_iconst C d_OO_table_6 ic_2 ?_
    refine j_icmp_ge C d_OO_table_7 (tgt := 17) (by decide) (fun c7 => ?_) (fun c7 => ?_)
    · have h := h.1 c7
      refine j_iload_n C d_OO_table_17 rfl 1 rfl ?_
      refine j_bipush C d_OO_table_18 ib_24 ?_
      refine j_icmp_gt C d_OO_table_20 (tgt := 30) (by decide) (fun c20 => ?_) (fun c20 => ?_)
      · have h := h.1 c20
        refine j_lv [0] rfl ?_
        exact k_OO_table_30 C hr hE h0 I g_h0 h
      · have h := h.2 c20
        refine j_iload_n C d_OO_table_23 rfl 2 rfl ?_
        refine j_sipush C d_OO_table_24 is_32749 ?_
        refine j_icmp_le C d_OO_table_27 (tgt := 37) (by decide) (fun c27 => ?_) (fun c27 => ?_)
        · have h := h.1 c27
          refine j_iload_n C d_OO_table_37 rfl 2 rfl ?_
          refine j_callSi (As := [.int v2]) C cw_OO_77 w_355 rfl rfl (by decide) (by decide) (Nat.le_of_ble_eq_true rfl) d_OO_table_38 (s_MO_isPrime C.ok  h) (fun r_1 I2 h => ?_)
          obtain ⟨rfl, h⟩ := h
          refine j_if_ne C d_OO_table_41 (tgt := 51) (by decide) (fun c41 => ?_) (fun c41 => ?_)
          · have h := h.1 c41
            refine j_aload_n C d_OO_table_51 rfl 0 rfl ?_
            refine j_iload_n C d_OO_table_52 rfl 1 rfl ?_
            refine j_iload_n C d_OO_table_53 rfl 2 rfl ?_
            refine j_callVv (As := [.int v1, .int v2]) C jcl_OO cw_OO_69 w_278 ws_0 g_h0 rfl rfl (by decide) (by decide) (Nat.le_of_ble_eq_true rfl) d_OO_table_54 (s_OO_startAnew C.ok hE g_h0 h) (fun I_3 h => ?_)
            refine j_iconst C d_OO_table_57 ic_1 ?_
            exact j_iret C hr d_OO_table_58 h
          · have h := h.2 c41
            refine j_aload_n C d_OO_table_44 rfl 0 rfl ?_
            refine j_bipush C d_OO_table_45 ib_m2 ?_
            refine j_callVi (As := [.int (-2 : Int32)]) C jcl_OO cw_OO_73 w_352 ws_3 g_h0 rfl rfl (by decide) (by decide) (Nat.le_of_ble_eq_true rfl) d_OO_table_47 (s_OO_refuse C.ok hE g_h0 h) (fun r_4 I_5 h => ?_)
            exact j_iret C hr d_OO_table_50 h
        · have h := h.2 c27
          refine j_lv [0] rfl ?_
          exact k_OO_table_30 C hr hE h0 I g_h0 h
    · have h := h.2 c7
      refine j_lv [0] rfl ?_
      exact k_OO_table_10 C hr hE h0 I g_h0 h
theorem d_OO_width_0 : decode prog_1_method_12_code 0 = .ok (.aload_n 0, 1) := by decide +kernel
theorem d_OO_width_1 : decode prog_1_method_12_code 1 = .ok (.invokevirtual 114, 3) := by decide +kernel
theorem d_OO_width_4 : decode prog_1_method_12_code 4 = .ok (.getfield 150, 3) := by decide +kernel
theorem d_OO_width_7 : decode prog_1_method_12_code 7 = .ok (.ireturn, 1) := by decide +kernel
/-- OutOrder.width()I -/
def OO_width (h0 : Nat) (I : jM) (K : Int32 → jM → Prop) : Prop :=
  OO_fullNet h0 I (fun r_1 I_2 => (r_1 ∈ jLX ∧ jk r_1 = 0 ∧ K (I_2 r_1 9) I_2))
set_option maxRecDepth 100000 in
set_option maxHeartbeats 4000000 in
theorem s_OO_width {l : Launch} {E : jE} (ok : jOK E) (hE : E.2.2.2 = jLX) {h0 : Nat} (g_h0 : jOB E 10 h0) {I : jM} {K : Int32 → jM → Prop} (h : OO_width h0 I K) : jSi l E ⟨"OutOrder", "width", "()I"⟩ prog_1_method_12_code 1 (some .int) 4 91 [.ref (E.2.2.1 h0)] I K := by
  refine jS_ofF (own := "OutOrder") (by decide +kernel) rfl ok (Nat.le_of_ble_eq_true rfl) (fun Z _ C hr => ?_)
  show jJ Z E 1 (jQi Z E K) 0 [(0, .ref (E.2.2.1 h0))] [] I
  unfold OO_width at h
  refine j_aload_n C d_OO_width_0 rfl 0 rfl ?_
  refine j_callVr (As := []) C jcl_OO cw_OO_114 w_491 ws_13 g_h0 rfl rfl (by decide) (by decide) (Nat.le_of_ble_eq_true rfl) d_OO_width_1 (s_OO_fullNet C.ok hE g_h0 h) (fun r_1 I_2 h => ?_)
  obtain ⟨q_3, q_4, h⟩ := h
  refine fg_OO_150 C (⟨hE ▸ q_3, q_4⟩ : jOB E 0 r_1) d_OO_width_4 ?_
  exact j_iret C hr d_OO_width_7 h
theorem d_OO_work_0 : decode prog_1_method_21_code 0 = .ok (.aload_n 0, 1) := by decide +kernel
theorem d_OO_work_1 : decode prog_1_method_21_code 1 = .ok (.getfield 54, 3) := by decide +kernel
theorem d_OO_work_4 : decode prog_1_method_21_code 4 = .ok (.aload_n 0, 1) := by decide +kernel
theorem d_OO_work_5 : decode prog_1_method_21_code 5 = .ok (.getfield 12, 3) := by decide +kernel
theorem d_OO_work_8 : decode prog_1_method_21_code 8 = .ok (.aload_n 0, 1) := by decide +kernel
theorem d_OO_work_9 : decode prog_1_method_21_code 9 = .ok (.getfield 19, 3) := by decide +kernel
theorem d_OO_work_12 : decode prog_1_method_21_code 12 = .ok (.invokevirtual 211, 3) := by decide +kernel
theorem d_OO_work_15 : decode prog_1_method_21_code 15 = .ok (.aload_n 0, 1) := by decide +kernel
theorem d_OO_work_16 : decode prog_1_method_21_code 16 = .ok (.getfield 54, 3) := by decide +kernel
theorem d_OO_work_19 : decode prog_1_method_21_code 19 = .ok (.getfield 215, 3) := by decide +kernel
theorem d_OO_work_22 : decode prog_1_method_21_code 22 = .ok (.ireturn, 1) := by decide +kernel
/-- OutOrder.work()I -/
def OO_work (h0 : Nat) (I : jM) (K : Int32 → jM → Prop) : Prop :=
  WO_reckon (jr h0 6) (jr h0 0) (jr h0 1) I (fun I_2 => K (I_2 (jr h0 6) 4) I_2)
set_option maxRecDepth 100000 in
set_option maxHeartbeats 4000000 in
theorem s_OO_work {l : Launch} {E : jE} (ok : jOK E) (hE : E.2.2.2 = jLX) {h0 : Nat} (g_h0 : jOB E 10 h0) {I : jM} {K : Int32 → jM → Prop} (h : OO_work h0 I K) : jSi l E ⟨"OutOrder", "work", "()I"⟩ prog_1_method_21_code 1 (some .int) 5 114 [.ref (E.2.2.1 h0)] I K := by
  refine jS_ofF (own := "OutOrder") (by decide +kernel) rfl ok (Nat.le_of_ble_eq_true rfl) (fun Z _ C hr => ?_)
  show jJ Z E 1 (jQi Z E K) 0 [(0, .ref (E.2.2.1 h0))] [] I
  unfold OO_work at h
  refine j_aload_n C d_OO_work_0 rfl 0 rfl ?_
  refine fg_OO_54 C g_h0 d_OO_work_1 ?_
  refine j_aload_n C d_OO_work_4 rfl 0 rfl ?_
  refine fg_OO_12 C g_h0 d_OO_work_5 ?_
  refine j_aload_n C d_OO_work_8 rfl 0 rfl ?_
  refine fg_OO_19 C g_h0 d_OO_work_9 ?_
  refine j_callVv (As := [.ref (E.2.2.1 (jr h0 0)), .ref (E.2.2.1 (jr h0 1))]) C jcl_WO cw_OO_211 w_621 w_622 (sh_OO_6 hE g_h0) rfl rfl (by decide) (by decide) (Nat.le_of_ble_eq_true rfl) d_OO_work_12 (s_WO_reckon C.ok hE (sh_OO_6 hE g_h0) (sh_OO_0 hE g_h0) (sh_OO_1 hE g_h0) h) (fun I_2 h => ?_)
  refine j_aload_n C d_OO_work_15 rfl 0 rfl ?_
  refine fg_OO_54 C g_h0 d_OO_work_16 ?_
  refine fg_OO_215 C (sh_OO_6 hE g_h0) d_OO_work_19 ?_
  exact j_iret C hr d_OO_work_22 h
theorem d_OO_worth_0 : decode prog_1_method_24_code 0 = .ok (.aload_n 0, 1) := by decide +kernel
theorem d_OO_worth_1 : decode prog_1_method_24_code 1 = .ok (.getfield 54, 3) := by decide +kernel
theorem d_OO_worth_4 : decode prog_1_method_24_code 4 = .ok (.getfield 215, 3) := by decide +kernel
theorem d_OO_worth_7 : decode prog_1_method_24_code 7 = .ok (.aload_n 0, 1) := by decide +kernel
theorem d_OO_worth_8 : decode prog_1_method_24_code 8 = .ok (.getfield 12, 3) := by decide +kernel
theorem d_OO_worth_11 : decode prog_1_method_24_code 11 = .ok (.getfield 104, 3) := by decide +kernel
theorem d_OO_worth_14 : decode prog_1_method_24_code 14 = .ok (.if_icmp .ge 12, 3) := by decide +kernel
theorem d_OO_worth_17 : decode prog_1_method_24_code 17 = .ok (.aload_n 0, 1) := by decide +kernel
theorem d_OO_worth_18 : decode prog_1_method_24_code 18 = .ok (.bipush (-5), 2) := by decide +kernel
theorem d_OO_worth_20 : decode prog_1_method_24_code 20 = .ok (.invokevirtual 73, 3) := by decide +kernel
theorem d_OO_worth_23 : decode prog_1_method_24_code 23 = .ok (.goto 14, 3) := by decide +kernel
theorem d_OO_worth_26 : decode prog_1_method_24_code 26 = .ok (.aload_n 0, 1) := by decide +kernel
theorem d_OO_worth_27 : decode prog_1_method_24_code 27 = .ok (.getfield 54, 3) := by decide +kernel
theorem d_OO_worth_30 : decode prog_1_method_24_code 30 = .ok (.aload_n 0, 1) := by decide +kernel
theorem d_OO_worth_31 : decode prog_1_method_24_code 31 = .ok (.getfield 12, 3) := by decide +kernel
theorem d_OO_worth_34 : decode prog_1_method_24_code 34 = .ok (.invokevirtual 227, 3) := by decide +kernel
theorem d_OO_worth_37 : decode prog_1_method_24_code 37 = .ok (.ireturn, 1) := by decide +kernel
/-- OutOrder.worth()I -/
def OO_worth (h0 : Nat) (I : jM) (K : Int32 → jM → Prop) : Prop :=
  (((I (jr h0 0) 4) ≤ (I (jr h0 6) 4) → WO_product (jr h0 6) (jr h0 0) I (fun r_1 => K r_1 I)) ∧ (¬ (I (jr h0 0) 4) ≤ (I (jr h0 6) 4) → OO_refuse h0 (-5 : Int32) I (fun r_2 I_3 => K r_2 I_3)))
set_option maxRecDepth 100000 in
set_option maxHeartbeats 4000000 in
theorem s_OO_worth {l : Launch} {E : jE} (ok : jOK E) (hE : E.2.2.2 = jLX) {h0 : Nat} (g_h0 : jOB E 10 h0) {I : jM} {K : Int32 → jM → Prop} (h : OO_worth h0 I K) : jSi l E ⟨"OutOrder", "worth", "()I"⟩ prog_1_method_24_code 1 (some .int) 4 88 [.ref (E.2.2.1 h0)] I K := by
  refine jS_ofF (own := "OutOrder") (by decide +kernel) rfl ok (Nat.le_of_ble_eq_true rfl) (fun Z _ C hr => ?_)
  show jJ Z E 1 (jQi Z E K) 0 [(0, .ref (E.2.2.1 h0))] [] I
  unfold OO_worth at h
  refine j_aload_n C d_OO_worth_0 rfl 0 rfl ?_
  refine fg_OO_54 C g_h0 d_OO_worth_1 ?_
  refine fg_OO_215 C (sh_OO_6 hE g_h0) d_OO_worth_4 ?_
  refine j_aload_n C d_OO_worth_7 rfl 0 rfl ?_
  refine fg_OO_12 C g_h0 d_OO_worth_8 ?_
  refine fg_OO_104 C (sh_OO_0 hE g_h0) d_OO_worth_11 ?_
  refine j_icmp_ge C d_OO_worth_14 (tgt := 26) (by decide) (fun c14 => ?_) (fun c14 => ?_)
  · have h := h.1 c14
    refine j_aload_n C d_OO_worth_26 rfl 0 rfl ?_
    refine fg_OO_54 C g_h0 d_OO_worth_27 ?_
    refine j_aload_n C d_OO_worth_30 rfl 0 rfl ?_
    refine fg_OO_12 C g_h0 d_OO_worth_31 ?_
    refine j_callVi (As := [.ref (E.2.2.1 (jr h0 0))]) C jcl_WO cw_OO_227 w_665 w_666 (sh_OO_6 hE g_h0) rfl rfl (by decide) (by decide) (Nat.le_of_ble_eq_true rfl) d_OO_worth_34 (s_WO_product C.ok hE (sh_OO_6 hE g_h0) (sh_OO_0 hE g_h0) h) (fun r_1 I2 h => ?_)
    obtain ⟨rfl, h⟩ := h
    exact j_iret C hr d_OO_worth_37 h
  · have h := h.2 c14
    refine j_aload_n C d_OO_worth_17 rfl 0 rfl ?_
    refine j_bipush C d_OO_worth_18 ib_m5 ?_
    refine j_callVi (As := [.int (-5 : Int32)]) C jcl_OO cw_OO_73 w_352 ws_3 g_h0 rfl rfl (by decide) (by decide) (Nat.le_of_ble_eq_true rfl) d_OO_worth_20 (s_OO_refuse C.ok hE g_h0 h) (fun r_2 I_3 h => ?_)
    refine j_goto C d_OO_worth_23 (tgt := 37) (by decide) ?_
    exact j_iret C hr d_OO_worth_37 h
