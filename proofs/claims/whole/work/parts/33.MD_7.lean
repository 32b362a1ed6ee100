theorem d_MD_worth_0 : decode prog_14_method_54_code 0 = .ok (.aload_n 0, 1) := by decide +kernel
theorem d_MD_worth_1 : decode prog_14_method_54_code 1 = .ok (.getfield 176, 3) := by decide +kernel
theorem d_MD_worth_4 : decode prog_14_method_54_code 4 = .ok (.aload_n 0, 1) := by decide +kernel
theorem d_MD_worth_5 : decode prog_14_method_54_code 5 = .ok (.getfield 7, 3) := by decide +kernel
theorem d_MD_worth_8 : decode prog_14_method_54_code 8 = .ok (.if_icmp .ge 10, 3) := by decide +kernel
theorem d_MD_worth_11 : decode prog_14_method_54_code 11 = .ok (.aload_n 0, 1) := by decide +kernel
theorem d_MD_worth_12 : decode prog_14_method_54_code 12 = .ok (.bipush (-5), 2) := by decide +kernel
theorem d_MD_worth_14 : decode prog_14_method_54_code 14 = .ok (.invokevirtual 79, 3) := by decide +kernel
theorem d_MD_worth_17 : decode prog_14_method_54_code 17 = .ok (.ireturn, 1) := by decide +kernel
theorem d_MD_worth_18 : decode prog_14_method_54_code 18 = .ok (.lconst 1, 1) := by decide +kernel
theorem d_MD_worth_19 : decode prog_14_method_54_code 19 = .ok (.lstore_n 1, 1) := by decide +kernel
theorem d_MD_worth_20 : decode prog_14_method_54_code 20 = .ok (.iconst 0, 1) := by decide +kernel
theorem d_MD_worth_21 : decode prog_14_method_54_code 21 = .ok (.istore_n 3, 1) := by decide +kernel
theorem d_MD_worth_22 : decode prog_14_method_54_code 22 = .ok (.iload_n 3, 1) := by decide +kernel
theorem d_MD_worth_23 : decode prog_14_method_54_code 23 = .ok (.aload_n 0, 1) := by decide +kernel
theorem d_MD_worth_24 : decode prog_14_method_54_code 24 = .ok (.getfield 7, 3) := by decide +kernel
theorem d_MD_worth_27 : decode prog_14_method_54_code 27 = .ok (.if_icmp .ge 25, 3) := by decide +kernel
theorem d_MD_worth_30 : decode prog_14_method_54_code 30 = .ok (.lload_n 1, 1) := by decide +kernel
theorem d_MD_worth_31 : decode prog_14_method_54_code 31 = .ok (.aload_n 0, 1) := by decide +kernel
theorem d_MD_worth_32 : decode prog_14_method_54_code 32 = .ok (.getfield 63, 3) := by decide +kernel
theorem d_MD_worth_35 : decode prog_14_method_54_code 35 = .ok (.iload_n 3, 1) := by decide +kernel
theorem d_MD_worth_36 : decode prog_14_method_54_code 36 = .ok (.iaload, 1) := by decide +kernel
theorem d_MD_worth_37 : decode prog_14_method_54_code 37 = .ok (.i2l, 1) := by decide +kernel
theorem d_MD_worth_38 : decode prog_14_method_54_code 38 = .ok (.lmul, 1) := by decide +kernel
theorem d_MD_worth_39 : decode prog_14_method_54_code 39 = .ok (.aload_n 0, 1) := by decide +kernel
theorem d_MD_worth_40 : decode prog_14_method_54_code 40 = .ok (.getfield 13, 3) := by decide +kernel
theorem d_MD_worth_43 : decode prog_14_method_54_code 43 = .ok (.i2l, 1) := by decide +kernel
theorem d_MD_worth_44 : decode prog_14_method_54_code 44 = .ok (.lrem, 1) := by decide +kernel
theorem d_MD_worth_45 : decode prog_14_method_54_code 45 = .ok (.lstore_n 1, 1) := by decide +kernel
theorem d_MD_worth_46 : decode prog_14_method_54_code 46 = .ok (.iinc 3 1, 3) := by decide +kernel
theorem d_MD_worth_49 : decode prog_14_method_54_code 49 = .ok (.goto (-27), 3) := by decide +kernel
theorem d_MD_worth_52 : decode prog_14_method_54_code 52 = .ok (.lload_n 1, 1) := by decide +kernel
theorem d_MD_worth_53 : decode prog_14_method_54_code 53 = .ok (.l2i, 1) := by decide +kernel
theorem d_MD_worth_54 : decode prog_14_method_54_code 54 = .ok (.ireturn, 1) := by decide +kernel
def MD_worth_22b (h0 : Nat) (w1 : Int64) (v3 : Int32) (I : jM) (K : Int32 → jM → Prop) (X22 : Int64 × Int32 → Prop) : Prop :=
  (((I h0 0) ≤ v3 → K w1.toInt32 I) ∧ (¬ (I h0 0) ≤ v3 → (vp_in v3 24 ∧ (¬ (I h0 1).toInt64 = 0 ∧ (∀ w1_1 : Int64, w1_1 = ((w1 * (I (jr h0 20) v3.toNatClampNeg).toInt64) - (w1 * (I (jr h0 20) v3.toNatClampNeg).toInt64) / (I h0 1).toInt64 * (I h0 1).toInt64) → X22 (w1_1, (v3 + 1)))))))
def MD_worth_22 (h0 : Nat) (w1 : Int64) (v3 : Int32) (I : jM) (K : Int32 → jM → Prop) : Prop :=
  lp (fun (X22 : Int64 × Int32 → Prop) (s : Int64 × Int32) => MD_worth_22b h0 s.1 s.2 I K X22) (w1, v3)
set_option maxRecDepth 100000 in
set_option maxHeartbeats 4000000 in
theorem kb_MD_worth_22 {Z : jZ} {E : jE} (C : jC Z E prog_14_method_54_code 4 "OutOrderModel" 1 21) (hr : (jZh Z).sig.returnType = (some .int)) (hE : E.2.2.2 = jLM)  (h0 : Nat) (w1 : Int64) (v3 : Int32) (I : jM) (g_h0 : jOB E 11 h0) {K : Int32 → jM → Prop} {X22 : Int64 × Int32 → Prop} (hX22 : ∀ s : Int64 × Int32, X22 s → jJ Z E 4 (jQi Z E K) 22 [(0, .ref (E.2.2.1 h0)), (1, .long s.1), (3, .int s.2)] [] I) (h : MD_worth_22b h0 w1 v3 I K X22) : jJ Z E 4 (jQi Z E K) 22 [(0, .ref (E.2.2.1 h0)), (1, .long w1), (3, .int v3)] [] I := by
  unfold MD_worth_22b at h
  refine j_iload_n C d_MD_worth_22 rfl 2 rfl ?_
  refine j_aload_n C d_MD_worth_23 rfl 0 rfl ?_
  refine fg_MD_7 C g_h0 d_MD_worth_24 ?_
  refine j_icmp_ge C d_MD_worth_27 (tgt := 52) (by decide) (fun c27 => ?_) (fun c27 => ?_)
  · have h := h.1 c27
    refine j_lload_n C d_MD_worth_52 rfl 1 rfl ?_
    refine j_l2i C d_MD_worth_53 ?_
    exact j_iret C hr d_MD_worth_54 h
  · have h := h.2 c27
    refine j_lload_n C d_MD_worth_30 rfl 1 rfl ?_
    refine j_aload_n C d_MD_worth_31 rfl 0 rfl ?_
    refine fg_MD_63 C g_h0 d_MD_worth_32 ?_
    refine j_iload_n C d_MD_worth_35 rfl 2 rfl ?_
    obtain ⟨hi, h⟩ := h
    refine j_iaload C (sh_MD_20 hE g_h0) hi d_MD_worth_36 ?_
    refine j_i2l C d_MD_worth_37 ?_
    refine j_lmul C d_MD_worth_38 ?_
    refine j_aload_n C d_MD_worth_39 rfl 0 rfl ?_
    refine fg_MD_13 C g_h0 d_MD_worth_40 ?_
    refine j_i2l C d_MD_worth_43 ?_
    obtain ⟨hn, h⟩ := h
    refine j_lrem C d_MD_worth_44 hn ?_
    refine j_topl (fun w1_1 ew1_1 => ?_)
    have h := h w1_1 ew1_1
    refine j_lstore_n C d_MD_worth_45 rfl (by decide) (lv' := [(1, .long w1_1), (0, .ref (E.2.2.1 h0)), (3, .int v3)]) rfl ?_
    refine j_iinc C d_MD_worth_46 2 rfl (v := (v3 + 1)) rfl (by decide) (lv' := [(3, .int (v3 + 1)), (1, .long w1_1), (0, .ref (E.2.2.1 h0))]) rfl ?_
    refine j_goto C d_MD_worth_49 (tgt := 22) (by decide) ?_
    refine j_lv [2, 1, 0] rfl ?_
    exact hX22 (w1_1, (v3 + 1)) h
theorem k_MD_worth_22 {Z : jZ} {E : jE} (C : jC Z E prog_14_method_54_code 4 "OutOrderModel" 1 21) (hr : (jZh Z).sig.returnType = (some .int)) (hE : E.2.2.2 = jLM)  (h0 : Nat) (w1 : Int64) (v3 : Int32) (I : jM) (g_h0 : jOB E 11 h0) {K : Int32 → jM → Prop} (h : MD_worth_22 h0 w1 v3 I K) : jJ Z E 4 (jQi Z E K) 22 [(0, .ref (E.2.2.1 h0)), (1, .long w1), (3, .int v3)] [] I := by
  unfold MD_worth_22 at h
  exact h (fun s => jJ Z E 4 (jQi Z E K) 22 [(0, .ref (E.2.2.1 h0)), (1, .long s.1), (3, .int s.2)] [] I) (fun s hs => kb_MD_worth_22 C hr hE h0 s.1 s.2 I g_h0 (fun s2 h2 => h2) hs)
/-- OutOrderModel.worth()I -/
def MD_worth (h0 : Nat) (I : jM) (K : Int32 → jM → Prop) : Prop :=
  (((I h0 0) ≤ (I h0 18) → MD_worth_22 h0 (1 : Int64) (0 : Int32) I K) ∧ (¬ (I h0 0) ≤ (I h0 18) → MD_refuse h0 (-5 : Int32) I (fun r_1 I_2 => K r_1 I_2)))
set_option maxRecDepth 100000 in
set_option maxHeartbeats 4000000 in
theorem s_MD_worth {l : Launch} {E : jE} (ok : jOK E) (hE : E.2.2.2 = jLM) {h0 : Nat} (g_h0 : jOB E 11 h0) {I : jM} {K : Int32 → jM → Prop} (h : MD_worth h0 I K) : jSi l E ⟨"OutOrderModel", "worth", "()I"⟩ prog_14_method_54_code 4 (some .int) 1 21 [.ref (E.2.2.1 h0)] I K := by
  refine jS_ofF (own := "OutOrderModel") (by decide +kernel) rfl ok (Nat.le_of_ble_eq_true rfl) (fun Z _ C hr => ?_)
  show jJ Z E 4 (jQi Z E K) 0 [(0, .ref (E.2.2.1 h0))] [] I
  unfold MD_worth at h
  refine j_aload_n C d_MD_worth_0 rfl 0 rfl ?_
  refine fg_MD_176 C g_h0 d_MD_worth_1 ?_
  refine j_aload_n C d_MD_worth_4 rfl 0 rfl ?_
  refine fg_MD_7 C g_h0 d_MD_worth_5 ?_
  refine j_icmp_ge C d_MD_worth_8 (tgt := 18) (by decide) (fun c8 => ?_) (fun c8 => ?_)
  · have h := h.1 c8
    refine j_lconst (v := (1 : Int64)) C d_MD_worth_18 (by decide) ?_
    refine j_lstore_n C d_MD_worth_19 rfl (by decide) (lv' := [(1, .long (1 : Int64)), (0, .ref (E.2.2.1 h0))]) rfl ?_
    refine j_iconst C d_MD_worth_20 ic_0 ?_
    refine j_istore_n C d_MD_worth_21 rfl (by decide) (lv' := [(3, .int (0 : Int32)), (1, .long (1 : Int64)), (0, .ref (E.2.2.1 h0))]) rfl ?_
    refine j_lv [2, 1, 0] rfl ?_
    exact k_MD_worth_22 C hr hE h0 (1 : Int64) (0 : Int32) I g_h0 h
  · have h := h.2 c8
    refine j_aload_n C d_MD_worth_11 rfl 0 rfl ?_
    refine j_bipush C d_MD_worth_12 ib_m5 ?_
    refine j_callVi (As := [.int (-5 : Int32)]) C jcl_MD cw_MD_79 w_809 ws_23 g_h0 rfl rfl (by decide) (by decide) (Nat.le_of_ble_eq_true rfl) d_MD_worth_14 (s_MD_refuse C.ok hE g_h0 h) (fun r_1 I_2 h => ?_)
    exact j_iret C hr d_MD_worth_17 h
