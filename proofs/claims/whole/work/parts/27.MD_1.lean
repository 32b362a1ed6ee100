theorem d_MD_costOf_0 : decode prog_14_method_21_code 0 = .ok (.aload_n 0, 1) := by decide +kernel
theorem d_MD_costOf_1 : decode prog_14_method_21_code 1 = .ok (.iload_n 1, 1) := by decide +kernel
theorem d_MD_costOf_2 : decode prog_14_method_21_code 2 = .ok (.iload_n 2, 1) := by decide +kernel
theorem d_MD_costOf_3 : decode prog_14_method_21_code 3 = .ok (.invokevirtual 114, 3) := by decide +kernel
theorem d_MD_costOf_6 : decode prog_14_method_21_code 6 = .ok (.istore 4, 2) := by decide +kernel
theorem d_MD_costOf_8 : decode prog_14_method_21_code 8 = .ok (.iload_n 3, 1) := by decide +kernel
theorem d_MD_costOf_9 : decode prog_14_method_21_code 9 = .ok (.ifCond .ne 9, 3) := by decide +kernel
theorem d_MD_costOf_12 : decode prog_14_method_21_code 12 = .ok (.iload 4, 2) := by decide +kernel
theorem d_MD_costOf_14 : decode prog_14_method_21_code 14 = .ok (.invokestatic 98, 3) := by decide +kernel
theorem d_MD_costOf_17 : decode prog_14_method_21_code 17 = .ok (.ireturn, 1) := by decide +kernel
theorem d_MD_costOf_18 : decode prog_14_method_21_code 18 = .ok (.iconst 0, 1) := by decide +kernel
theorem d_MD_costOf_19 : decode prog_14_method_21_code 19 = .ok (.istore 5, 2) := by decide +kernel
theorem d_MD_costOf_21 : decode prog_14_method_21_code 21 = .ok (.iconst 0, 1) := by decide +kernel
theorem d_MD_costOf_22 : decode prog_14_method_21_code 22 = .ok (.istore 6, 2) := by decide +kernel
theorem d_MD_costOf_24 : decode prog_14_method_21_code 24 = .ok (.iload 6, 2) := by decide +kernel
theorem d_MD_costOf_26 : decode prog_14_method_21_code 26 = .ok (.aload_n 0, 1) := by decide +kernel
theorem d_MD_costOf_27 : decode prog_14_method_21_code 27 = .ok (.getfield 7, 3) := by decide +kernel
theorem d_MD_costOf_30 : decode prog_14_method_21_code 30 = .ok (.if_icmp .ge 51, 3) := by decide +kernel
theorem d_MD_costOf_33 : decode prog_14_method_21_code 33 = .ok (.iload 5, 2) := by decide +kernel
theorem d_MD_costOf_35 : decode prog_14_method_21_code 35 = .ok (.iload 4, 2) := by decide +kernel
theorem d_MD_costOf_37 : decode prog_14_method_21_code 37 = .ok (.iload 6, 2) := by decide +kernel
theorem d_MD_costOf_39 : decode prog_14_method_21_code 39 = .ok (.ishr, 1) := by decide +kernel
theorem d_MD_costOf_40 : decode prog_14_method_21_code 40 = .ok (.iconst 1, 1) := by decide +kernel
theorem d_MD_costOf_41 : decode prog_14_method_21_code 41 = .ok (.iand, 1) := by decide +kernel
theorem d_MD_costOf_42 : decode prog_14_method_21_code 42 = .ok (.iconst 1, 1) := by decide +kernel
theorem d_MD_costOf_43 : decode prog_14_method_21_code 43 = .ok (.if_icmp .ne 28, 3) := by decide +kernel
theorem d_MD_costOf_46 : decode prog_14_method_21_code 46 = .ok (.iload 4, 2) := by decide +kernel
theorem d_MD_costOf_48 : decode prog_14_method_21_code 48 = .ok (.aload_n 0, 1) := by decide +kernel
theorem d_MD_costOf_49 : decode prog_14_method_21_code 49 = .ok (.iload 6, 2) := by decide +kernel
theorem d_MD_costOf_51 : decode prog_14_method_21_code 51 = .ok (.iload_n 2, 1) := by decide +kernel
theorem d_MD_costOf_52 : decode prog_14_method_21_code 52 = .ok (.invokevirtual 114, 3) := by decide +kernel
theorem d_MD_costOf_55 : decode prog_14_method_21_code 55 = .ok (.iconst (-1), 1) := by decide +kernel
theorem d_MD_costOf_56 : decode prog_14_method_21_code 56 = .ok (.ixor, 1) := by decide +kernel
theorem d_MD_costOf_57 : decode prog_14_method_21_code 57 = .ok (.iand, 1) := by decide +kernel
theorem d_MD_costOf_58 : decode prog_14_method_21_code 58 = .ok (.iconst 1, 1) := by decide +kernel
theorem d_MD_costOf_59 : decode prog_14_method_21_code 59 = .ok (.iload 6, 2) := by decide +kernel
theorem d_MD_costOf_61 : decode prog_14_method_21_code 61 = .ok (.ishl, 1) := by decide +kernel
theorem d_MD_costOf_62 : decode prog_14_method_21_code 62 = .ok (.iconst (-1), 1) := by decide +kernel
theorem d_MD_costOf_63 : decode prog_14_method_21_code 63 = .ok (.ixor, 1) := by decide +kernel
theorem d_MD_costOf_64 : decode prog_14_method_21_code 64 = .ok (.iand, 1) := by decide +kernel
theorem d_MD_costOf_65 : decode prog_14_method_21_code 65 = .ok (.invokestatic 98, 3) := by decide +kernel
theorem d_MD_costOf_68 : decode prog_14_method_21_code 68 = .ok (.goto 4, 3) := by decide +kernel
theorem d_MD_costOf_71 : decode prog_14_method_21_code 71 = .ok (.iconst 0, 1) := by decide +kernel
theorem d_MD_costOf_72 : decode prog_14_method_21_code 72 = .ok (.iadd, 1) := by decide +kernel
theorem d_MD_costOf_73 : decode prog_14_method_21_code 73 = .ok (.istore 5, 2) := by decide +kernel
theorem d_MD_costOf_75 : decode prog_14_method_21_code 75 = .ok (.iinc 6 1, 3) := by decide +kernel
theorem d_MD_costOf_78 : decode prog_14_method_21_code 78 = .ok (.goto (-54), 3) := by decide +kernel
theorem d_MD_costOf_81 : decode prog_14_method_21_code 81 = .ok (.iload 5, 2) := by decide +kernel
theorem d_MD_costOf_83 : decode prog_14_method_21_code 83 = .ok (.iconst 2, 1) := by decide +kernel
theorem d_MD_costOf_84 : decode prog_14_method_21_code 84 = .ok (.idiv, 1) := by decide +kernel
theorem d_MD_costOf_85 : decode prog_14_method_21_code 85 = .ok (.ireturn, 1) := by decide +kernel
def MD_costOf_24b (h0 : Nat) (v2 : Int32) (v4 : Int32) (v5 : Int32) (v6 : Int32) (I : jM) (K : Int32 → Prop) (X24 : Int32 × Int32 → Prop) : Prop :=
  (((I h0 0) ≤ v6 → K (v5 / (2 : Int32))) ∧ (¬ (I h0 0) ≤ v6 → ((¬ ((v4 >>> (v6 &&& 31)) &&& (1 : Int32)) = (1 : Int32) → (∀ v5_1 : Int32, v5_1 = (v5 + (0 : Int32)) → X24 (v5_1, (v6 + 1)))) ∧ (((v4 >>> (v6 &&& 31)) &&& (1 : Int32)) = (1 : Int32) → MD_around h0 v6 v2 I (fun r_2 => MD_ones ((v4 &&& (r_2 ^^^ (-1 : Int32))) &&& (((1 : Int32) <<< (v6 &&& 31)) ^^^ (-1 : Int32))) I (fun r_3 => (∀ v5_4 : Int32, v5_4 = (v5 + r_3) → X24 (v5_4, (v6 + 1)))))))))
def MD_costOf_24 (h0 : Nat) (v2 : Int32) (v4 : Int32) (v5 : Int32) (v6 : Int32) (I : jM) (K : Int32 → Prop) : Prop :=
  lp (fun (X24 : Int32 × Int32 → Prop) (s : Int32 × Int32) => MD_costOf_24b h0 v2 v4 s.1 s.2 I K X24) (v5, v6)
set_option maxRecDepth 100000 in
set_option maxHeartbeats 4000000 in
theorem kb_MD_costOf_24 {Z : jZ} {E : jE} (C : jC Z E prog_14_method_21_code 7 "OutOrderModel" 1 27) (hr : (jZh Z).sig.returnType = (some .int)) (hE : E.2.2.2 = jLM)  (h0 : Nat) (v2 : Int32) (v4 : Int32) (v5 : Int32) (v6 : Int32) (I : jM) (g_h0 : jOB E 11 h0) {K : Int32 → Prop} {X24 : Int32 × Int32 → Prop} (hX24 : ∀ s : Int32 × Int32, X24 s → jJ Z E 7 (jQi Z E (fun r I2 => I = I2 ∧ K r)) 24 [(0, .ref (E.2.2.1 h0)), (2, .int v2), (4, .int v4), (5, .int s.1), (6, .int s.2)] [] I) (h : MD_costOf_24b h0 v2 v4 v5 v6 I K X24) : jJ Z E 7 (jQi Z E (fun r I2 => I = I2 ∧ K r)) 24 [(0, .ref (E.2.2.1 h0)), (2, .int v2), (4, .int v4), (5, .int v5), (6, .int v6)] [] I := by
  unfold MD_costOf_24b at h
  refine j_iload C d_MD_costOf_24 4 rfl ?_
  refine j_aload_n C d_MD_costOf_26 rfl 0 rfl ?_
  refine fg_MD_7 C g_h0 d_MD_costOf_27 ?_
  refine j_icmp_ge C d_MD_costOf_30 (tgt := 81) (by decide) (fun c30 => ?_) (fun c30 => ?_)
  · have h := h.1 c30
    refine j_iload C d_MD_costOf_81 3 rfl ?_
    refine j_iconst C d_MD_costOf_83 ic_2 ?_
    refine j_idiv C d_MD_costOf_84 (by decide) ?_
    exact j_iret C hr d_MD_costOf_85 ⟨rfl, h⟩
  · have h := h.2 c30
    refine j_iload C d_MD_costOf_33 3 rfl ?_
    refine j_iload C d_MD_costOf_35 2 rfl ?_
    refine j_iload C d_MD_costOf_37 4 rfl ?_
    refine j_ishr C d_MD_costOf_39 ?_
    refine j_iconst C d_MD_costOf_40 ic_1 ?_
    refine j_iand C d_MD_costOf_41 ?_
    refine j_iconst C d_MD_costOf_42 ic_1 ?_
    refine j_icmp_ne C d_MD_costOf_43 (tgt := 71) (by decide) (fun c43 => ?_) (fun c43 => ?_)
    · have h := h.1 c43
      refine j_iconst C d_MD_costOf_71 ic_0 ?_
      refine j_iadd C d_MD_costOf_72 ?_
      refine j_topi (fun v5_1 ev5_1 => ?_)
      have h := h v5_1 ev5_1
      refine j_istore C d_MD_costOf_73 (by decide) (lv' := [(5, .int v5_1), (0, .ref (E.2.2.1 h0)), (2, .int v2), (4, .int v4), (6, .int v6)]) rfl ?_
      refine j_iinc C d_MD_costOf_75 4 rfl (v := (v6 + 1)) rfl (by decide) (lv' := [(6, .int (v6 + 1)), (5, .int v5_1), (0, .ref (E.2.2.1 h0)), (2, .int v2), (4, .int v4)]) rfl ?_
      refine j_goto C d_MD_costOf_78 (tgt := 24) (by decide) ?_
      refine j_lv [2, 3, 4, 1, 0] rfl ?_
      exact hX24 (v5_1, (v6 + 1)) h
    · have h := h.2 c43
      refine j_iload C d_MD_costOf_46 2 rfl ?_
      refine j_aload_n C d_MD_costOf_48 rfl 0 rfl ?_
      refine j_iload C d_MD_costOf_49 4 rfl ?_
      refine j_iload_n C d_MD_costOf_51 rfl 1 rfl ?_
      refine j_callVi (As := [.int v6, .int v2]) C jcl_MD cw_MD_114 w_889 ws_35 g_h0 rfl rfl (by decide) (by decide) (Nat.le_of_ble_eq_true rfl) d_MD_costOf_52 (s_MD_around C.ok hE g_h0 h) (fun r_2 I2 h => ?_)
      obtain ⟨rfl, h⟩ := h
      refine j_iconst C d_MD_costOf_55 ic_m1 ?_
      refine j_ixor C d_MD_costOf_56 ?_
      refine j_iand C d_MD_costOf_57 ?_
      refine j_iconst C d_MD_costOf_58 ic_1 ?_
      refine j_iload C d_MD_costOf_59 4 rfl ?_
      refine j_ishl C d_MD_costOf_61 ?_
      refine j_iconst C d_MD_costOf_62 ic_m1 ?_
      refine j_ixor C d_MD_costOf_63 ?_
      refine j_iand C d_MD_costOf_64 ?_
      refine j_callSi (As := [.int ((v4 &&& (r_2 ^^^ (-1 : Int32))) &&& (((1 : Int32) <<< (v6 &&& 31)) ^^^ (-1 : Int32)))]) C cw_MD_98 w_866 rfl rfl (by decide) (by decide) (Nat.le_of_ble_eq_true rfl) d_MD_costOf_65 (s_MD_ones C.ok  h) (fun r_3 I2 h => ?_)
      obtain ⟨rfl, h⟩ := h
      refine j_goto C d_MD_costOf_68 (tgt := 72) (by decide) ?_
      refine j_iadd C d_MD_costOf_72 ?_
      refine j_topi (fun v5_4 ev5_4 => ?_)
      have h := h v5_4 ev5_4
      refine j_istore C d_MD_costOf_73 (by decide) (lv' := [(5, .int v5_4), (0, .ref (E.2.2.1 h0)), (2, .int v2), (4, .int v4), (6, .int v6)]) rfl ?_
      refine j_iinc C d_MD_costOf_75 4 rfl (v := (v6 + 1)) rfl (by decide) (lv' := [(6, .int (v6 + 1)), (5, .int v5_4), (0, .ref (E.2.2.1 h0)), (2, .int v2), (4, .int v4)]) rfl ?_
      refine j_goto C d_MD_costOf_78 (tgt := 24) (by decide) ?_
      refine j_lv [2, 3, 4, 1, 0] rfl ?_
      exact hX24 (v5_4, (v6 + 1)) h
theorem k_MD_costOf_24 {Z : jZ} {E : jE} (C : jC Z E prog_14_method_21_code 7 "OutOrderModel" 1 27) (hr : (jZh Z).sig.returnType = (some .int)) (hE : E.2.2.2 = jLM)  (h0 : Nat) (v2 : Int32) (v4 : Int32) (v5 : Int32) (v6 : Int32) (I : jM) (g_h0 : jOB E 11 h0) {K : Int32 → Prop} (h : MD_costOf_24 h0 v2 v4 v5 v6 I K) : jJ Z E 7 (jQi Z E (fun r I2 => I = I2 ∧ K r)) 24 [(0, .ref (E.2.2.1 h0)), (2, .int v2), (4, .int v4), (5, .int v5), (6, .int v6)] [] I := by
  unfold MD_costOf_24 at h
  exact h (fun s => jJ Z E 7 (jQi Z E (fun r I2 => I = I2 ∧ K r)) 24 [(0, .ref (E.2.2.1 h0)), (2, .int v2), (4, .int v4), (5, .int s.1), (6, .int s.2)] [] I) (fun s hs => kb_MD_costOf_24 C hr hE h0 v2 v4 s.1 s.2 I g_h0 (fun s2 h2 => h2) hs)
/-- OutOrderModel.costOf(IIZ)I -/
def MD_costOf (h0 : Nat) (v1 : Int32) (v2 : Int32) (v3 : Int32) (I : jM) (K : Int32 → Prop) : Prop :=
  MD_around h0 v1 v2 I (fun r_1 => ((¬ v3 = 0 → MD_costOf_24 h0 v2 r_1 (0 : Int32) (0 : Int32) I K) ∧ (v3 = 0 → MD_ones r_1 I (fun r_2 => K r_2))))
set_option maxRecDepth 100000 in
set_option maxHeartbeats 4000000 in
theorem s_MD_costOf {l : Launch} {E : jE} (ok : jOK E) (hE : E.2.2.2 = jLM) {h0 : Nat} {v1 : Int32} {v2 : Int32} {v3 : Int32} (g_h0 : jOB E 11 h0) {I : jM} {K : Int32 → Prop} (h : MD_costOf h0 v1 v2 v3 I K) : jSi l E ⟨"OutOrderModel", "costOf", "(IIZ)I"⟩ prog_14_method_21_code 7 (some .int) 1 27 [.ref (E.2.2.1 h0), .int v1, .int v2, .int v3] I (fun r I2 => I = I2 ∧ K r) := by
  refine jS_ofF (own := "OutOrderModel") (by decide +kernel) rfl ok (Nat.le_of_ble_eq_true rfl) (fun Z _ C hr => ?_)
  show jJ Z E 7 (jQi Z E (fun r I2 => I = I2 ∧ K r)) 0 [(0, .ref (E.2.2.1 h0)), (1, .int v1), (2, .int v2), (3, .int v3)] [] I
  unfold MD_costOf at h
  refine j_aload_n C d_MD_costOf_0 rfl 0 rfl ?_
  refine j_iload_n C d_MD_costOf_1 rfl 1 rfl ?_
  refine j_iload_n C d_MD_costOf_2 rfl 2 rfl ?_
  refine j_callVi (As := [.int v1, .int v2]) C jcl_MD cw_MD_114 w_889 ws_35 g_h0 rfl rfl (by decide) (by decide) (Nat.le_of_ble_eq_true rfl) d_MD_costOf_3 (s_MD_around C.ok hE g_h0 h) (fun r_1 I2 h => ?_)
  obtain ⟨rfl, h⟩ := h
  refine j_istore C d_MD_costOf_6 (by decide) (lv' := [(4, .int r_1), (0, .ref (E.2.2.1 h0)), (1, .int v1), (2, .int v2), (3, .int v3)]) rfl ?_
  refine j_iload_n C d_MD_costOf_8 rfl 4 rfl ?_
  refine j_if_ne C d_MD_costOf_9 (tgt := 18) (by decide) (fun c9 => ?_) (fun c9 => ?_)
  · have h := h.1 c9
    refine j_iconst C d_MD_costOf_18 ic_0 ?_
    refine j_istore C d_MD_costOf_19 (by decide) (lv' := [(5, .int (0 : Int32)), (4, .int r_1), (0, .ref (E.2.2.1 h0)), (1, .int v1), (2, .int v2), (3, .int v3)]) rfl ?_
    refine j_iconst C d_MD_costOf_21 ic_0 ?_
    refine j_istore C d_MD_costOf_22 (by decide) (lv' := [(6, .int (0 : Int32)), (5, .int (0 : Int32)), (4, .int r_1), (0, .ref (E.2.2.1 h0)), (1, .int v1), (2, .int v2), (3, .int v3)]) rfl ?_
    refine j_lv [3, 5, 2, 1, 0] rfl ?_
    exact k_MD_costOf_24 C hr hE h0 v2 r_1 (0 : Int32) (0 : Int32) I g_h0 h
  · have h := h.2 c9
    refine j_iload C d_MD_costOf_12 0 rfl ?_
    refine j_callSi (As := [.int r_1]) C cw_MD_98 w_866 rfl rfl (by decide) (by decide) (Nat.le_of_ble_eq_true rfl) d_MD_costOf_14 (s_MD_ones C.ok  h) (fun r_2 I2 h => ?_)
    obtain ⟨rfl, h⟩ := h
    exact j_iret C hr d_MD_costOf_17 ⟨rfl, h⟩
theorem d_MD_joined_0 : decode prog_14_method_22_code 0 = .ok (.iload_n 3, 1) := by decide +kernel
theorem d_MD_joined_1 : decode prog_14_method_22_code 1 = .ok (.ifCond .eq 9, 3) := by decide +kernel
theorem d_MD_joined_4 : decode prog_14_method_22_code 4 = .ok (.iload_n 1, 1) := by decide +kernel
theorem d_MD_joined_5 : decode prog_14_method_22_code 5 = .ok (.iload_n 2, 1) := by decide +kernel
theorem d_MD_joined_6 : decode prog_14_method_22_code 6 = .ok (.iadd, 1) := by decide +kernel
theorem d_MD_joined_7 : decode prog_14_method_22_code 7 = .ok (.goto 13, 3) := by decide +kernel
theorem d_MD_joined_10 : decode prog_14_method_22_code 10 = .ok (.iload_n 1, 1) := by decide +kernel
theorem d_MD_joined_11 : decode prog_14_method_22_code 11 = .ok (.iload_n 2, 1) := by decide +kernel
theorem d_MD_joined_12 : decode prog_14_method_22_code 12 = .ok (.if_icmp .le 7, 3) := by decide +kernel
theorem d_MD_joined_15 : decode prog_14_method_22_code 15 = .ok (.iload_n 1, 1) := by decide +kernel
theorem d_MD_joined_16 : decode prog_14_method_22_code 16 = .ok (.goto 4, 3) := by decide +kernel
theorem d_MD_joined_19 : decode prog_14_method_22_code 19 = .ok (.iload_n 2, 1) := by decide +kernel
theorem d_MD_joined_20 : decode prog_14_method_22_code 20 = .ok (.ireturn, 1) := by decide +kernel
/-- OutOrderModel.joined(IIZ)I -/
def MD_joined (h0 : Nat) (v1 : Int32) (v2 : Int32) (v3 : Int32) (I : jM) (K : Int32 → Prop) : Prop :=
  ((v3 = 0 → ((v1 ≤ v2 → K v2) ∧ (¬ v1 ≤ v2 → K v1))) ∧ (¬ v3 = 0 → K (v1 + v2)))
set_option maxRecDepth 100000 in
set_option maxHeartbeats 4000000 in
theorem s_MD_joined {l : Launch} {E : jE} (ok : jOK E)  {h0 : Nat} {v1 : Int32} {v2 : Int32} {v3 : Int32} (g_h0 : jOB E 11 h0) {I : jM} {K : Int32 → Prop} (h : MD_joined h0 v1 v2 v3 I K) : jSi l E ⟨"OutOrderModel", "joined", "(IIZ)I"⟩ prog_14_method_22_code 4 (some .int) 0 0 [.ref (E.2.2.1 h0), .int v1, .int v2, .int v3] I (fun r I2 => I = I2 ∧ K r) := by
  refine jS_ofF (own := "OutOrderModel") (by decide +kernel) rfl ok (Nat.le_of_ble_eq_true rfl) (fun Z _ C hr => ?_)
  show jJ Z E 4 (jQi Z E (fun r I2 => I = I2 ∧ K r)) 0 [(0, .ref (E.2.2.1 h0)), (1, .int v1), (2, .int v2), (3, .int v3)] [] I
  unfold MD_joined at h
  refine j_iload_n C d_MD_joined_0 rfl 3 rfl ?_
  refine j_if_eq C d_MD_joined_1 (tgt := 10) (by decide) (fun c1 => ?_) (fun c1 => ?_)
  · have h := h.1 c1
    refine j_iload_n C d_MD_joined_10 rfl 1 rfl ?_
    refine j_iload_n C d_MD_joined_11 rfl 2 rfl ?_
    refine j_icmp_le C d_MD_joined_12 (tgt := 19) (by decide) (fun c12 => ?_) (fun c12 => ?_)
    · have h := h.1 c12
      refine j_iload_n C d_MD_joined_19 rfl 2 rfl ?_
      exact j_iret C hr d_MD_joined_20 ⟨rfl, h⟩
    · have h := h.2 c12
      refine j_iload_n C d_MD_joined_15 rfl 1 rfl ?_
      refine j_goto C d_MD_joined_16 (tgt := 20) (by decide) ?_
      exact j_iret C hr d_MD_joined_20 ⟨rfl, h⟩
  · have h := h.2 c1
    refine j_iload_n C d_MD_joined_4 rfl 1 rfl ?_
    refine j_iload_n C d_MD_joined_5 rfl 2 rfl ?_
    refine j_iadd C d_MD_joined_6 ?_
    refine j_goto C d_MD_joined_7 (tgt := 20) (by decide) ?_
    exact j_iret C hr d_MD_joined_20 ⟨rfl, h⟩
theorem d_MD_findLeast_0 : decode prog_14_method_23_code 0 = .ok (.aload_n 0, 1) := by decide +kernel
theorem d_MD_findLeast_1 : decode prog_14_method_23_code 1 = .ok (.invokevirtual 100, 3) := by decide +kernel
theorem d_MD_findLeast_4 : decode prog_14_method_23_code 4 = .ok (.aload_n 0, 1) := by decide +kernel
theorem d_MD_findLeast_5 : decode prog_14_method_23_code 5 = .ok (.getfield 48, 3) := by decide +kernel
theorem d_MD_findLeast_8 : decode prog_14_method_23_code 8 = .ok (.iload_n 1, 1) := by decide +kernel
theorem d_MD_findLeast_9 : decode prog_14_method_23_code 9 = .ok (.ifCond .eq 7, 3) := by decide +kernel
theorem d_MD_findLeast_12 : decode prog_14_method_23_code 12 = .ok (.iconst 1, 1) := by decide +kernel
theorem d_MD_findLeast_13 : decode prog_14_method_23_code 13 = .ok (.goto 4, 3) := by decide +kernel
theorem d_MD_findLeast_16 : decode prog_14_method_23_code 16 = .ok (.iconst 0, 1) := by decide +kernel
theorem d_MD_findLeast_17 : decode prog_14_method_23_code 17 = .ok (.if_icmp .ne 4, 3) := by decide +kernel
theorem d_MD_findLeast_20 : decode prog_14_method_23_code 20 = .ok (.return_, 1) := by decide +kernel
theorem d_MD_findLeast_21 : decode prog_14_method_23_code 21 = .ok (.aload_n 0, 1) := by decide +kernel
theorem d_MD_findLeast_22 : decode prog_14_method_23_code 22 = .ok (.iload_n 1, 1) := by decide +kernel
theorem d_MD_findLeast_23 : decode prog_14_method_23_code 23 = .ok (.ifCond .eq 7, 3) := by decide +kernel
theorem d_MD_findLeast_26 : decode prog_14_method_23_code 26 = .ok (.iconst 1, 1) := by decide +kernel
theorem d_MD_findLeast_27 : decode prog_14_method_23_code 27 = .ok (.goto 4, 3) := by decide +kernel
theorem d_MD_findLeast_30 : decode prog_14_method_23_code 30 = .ok (.iconst 0, 1) := by decide +kernel
theorem d_MD_findLeast_31 : decode prog_14_method_23_code 31 = .ok (.putfield 48, 3) := by decide +kernel
theorem d_MD_findLeast_34 : decode prog_14_method_23_code 34 = .ok (.iconst 1, 1) := by decide +kernel
theorem d_MD_findLeast_35 : decode prog_14_method_23_code 35 = .ok (.aload_n 0, 1) := by decide +kernel
theorem d_MD_findLeast_36 : decode prog_14_method_23_code 36 = .ok (.getfield 7, 3) := by decide +kernel
theorem d_MD_findLeast_39 : decode prog_14_method_23_code 39 = .ok (.ishl, 1) := by decide +kernel
theorem d_MD_findLeast_40 : decode prog_14_method_23_code 40 = .ok (.iconst 1, 1) := by decide +kernel
theorem d_MD_findLeast_41 : decode prog_14_method_23_code 41 = .ok (.isub, 1) := by decide +kernel
theorem d_MD_findLeast_42 : decode prog_14_method_23_code 42 = .ok (.istore_n 2, 1) := by decide +kernel
theorem d_MD_findLeast_43 : decode prog_14_method_23_code 43 = .ok (.aload_n 0, 1) := by decide +kernel
theorem d_MD_findLeast_44 : decode prog_14_method_23_code 44 = .ok (.getfield 45, 3) := by decide +kernel
theorem d_MD_findLeast_47 : decode prog_14_method_23_code 47 = .ok (.iload_n 2, 1) := by decide +kernel
theorem d_MD_findLeast_48 : decode prog_14_method_23_code 48 = .ok (.iconst 0, 1) := by decide +kernel
theorem d_MD_findLeast_49 : decode prog_14_method_23_code 49 = .ok (.iastore, 1) := by decide +kernel
theorem d_MD_findLeast_50 : decode prog_14_method_23_code 50 = .ok (.iload_n 2, 1) := by decide +kernel
theorem d_MD_findLeast_51 : decode prog_14_method_23_code 51 = .ok (.iconst 1, 1) := by decide +kernel
theorem d_MD_findLeast_52 : decode prog_14_method_23_code 52 = .ok (.isub, 1) := by decide +kernel
theorem d_MD_findLeast_53 : decode prog_14_method_23_code 53 = .ok (.istore_n 3, 1) := by decide +kernel
theorem d_MD_findLeast_54 : decode prog_14_method_23_code 54 = .ok (.iload_n 3, 1) := by decide +kernel
theorem d_MD_findLeast_55 : decode prog_14_method_23_code 55 = .ok (.ifCond .lt 94, 3) := by decide +kernel
theorem d_MD_findLeast_58 : decode prog_14_method_23_code 58 = .ok (.iconst (-1), 1) := by decide +kernel
theorem d_MD_findLeast_59 : decode prog_14_method_23_code 59 = .ok (.istore 4, 2) := by decide +kernel
theorem d_MD_findLeast_61 : decode prog_14_method_23_code 61 = .ok (.iconst 0, 1) := by decide +kernel
theorem d_MD_findLeast_62 : decode prog_14_method_23_code 62 = .ok (.istore 5, 2) := by decide +kernel
theorem d_MD_findLeast_64 : decode prog_14_method_23_code 64 = .ok (.iload 5, 2) := by decide +kernel
theorem d_MD_findLeast_66 : decode prog_14_method_23_code 66 = .ok (.aload_n 0, 1) := by decide +kernel
theorem d_MD_findLeast_67 : decode prog_14_method_23_code 67 = .ok (.getfield 7, 3) := by decide +kernel
theorem d_MD_findLeast_70 : decode prog_14_method_23_code 70 = .ok (.if_icmp .ge 65, 3) := by decide +kernel
theorem d_MD_findLeast_73 : decode prog_14_method_23_code 73 = .ok (.iload_n 3, 1) := by decide +kernel
theorem d_MD_findLeast_74 : decode prog_14_method_23_code 74 = .ok (.iload 5, 2) := by decide +kernel
theorem d_MD_findLeast_76 : decode prog_14_method_23_code 76 = .ok (.ishr, 1) := by decide +kernel
theorem d_MD_findLeast_77 : decode prog_14_method_23_code 77 = .ok (.iconst 1, 1) := by decide +kernel
theorem d_MD_findLeast_78 : decode prog_14_method_23_code 78 = .ok (.iand, 1) := by decide +kernel
theorem d_MD_findLeast_79 : decode prog_14_method_23_code 79 = .ok (.ifCond .ne 50, 3) := by decide +kernel
theorem d_MD_findLeast_82 : decode prog_14_method_23_code 82 = .ok (.aload_n 0, 1) := by decide +kernel
theorem d_MD_findLeast_83 : decode prog_14_method_23_code 83 = .ok (.aload_n 0, 1) := by decide +kernel
theorem d_MD_findLeast_84 : decode prog_14_method_23_code 84 = .ok (.iload 5, 2) := by decide +kernel
theorem d_MD_findLeast_86 : decode prog_14_method_23_code 86 = .ok (.iload_n 3, 1) := by decide +kernel
theorem d_MD_findLeast_87 : decode prog_14_method_23_code 87 = .ok (.iload_n 1, 1) := by decide +kernel
theorem d_MD_findLeast_88 : decode prog_14_method_23_code 88 = .ok (.invokevirtual 118, 3) := by decide +kernel
theorem d_MD_findLeast_91 : decode prog_14_method_23_code 91 = .ok (.aload_n 0, 1) := by decide +kernel
theorem d_MD_findLeast_92 : decode prog_14_method_23_code 92 = .ok (.getfield 45, 3) := by decide +kernel
theorem d_MD_findLeast_95 : decode prog_14_method_23_code 95 = .ok (.iload_n 3, 1) := by decide +kernel
theorem d_MD_findLeast_96 : decode prog_14_method_23_code 96 = .ok (.iconst 1, 1) := by decide +kernel
theorem d_MD_findLeast_97 : decode prog_14_method_23_code 97 = .ok (.iload 5, 2) := by decide +kernel
theorem d_MD_findLeast_99 : decode prog_14_method_23_code 99 = .ok (.ishl, 1) := by decide +kernel
theorem d_MD_findLeast_100 : decode prog_14_method_23_code 100 = .ok (.ior, 1) := by decide +kernel
theorem d_MD_findLeast_101 : decode prog_14_method_23_code 101 = .ok (.iaload, 1) := by decide +kernel
theorem d_MD_findLeast_102 : decode prog_14_method_23_code 102 = .ok (.iload_n 1, 1) := by decide +kernel
theorem d_MD_findLeast_103 : decode prog_14_method_23_code 103 = .ok (.invokevirtual 122, 3) := by decide +kernel
theorem d_MD_findLeast_106 : decode prog_14_method_23_code 106 = .ok (.istore 6, 2) := by decide +kernel
theorem d_MD_findLeast_108 : decode prog_14_method_23_code 108 = .ok (.iload 4, 2) := by decide +kernel
theorem d_MD_findLeast_110 : decode prog_14_method_23_code 110 = .ok (.ifCond .lt 10, 3) := by decide +kernel
theorem d_MD_findLeast_113 : decode prog_14_method_23_code 113 = .ok (.iload 6, 2) := by decide +kernel
theorem d_MD_findLeast_115 : decode prog_14_method_23_code 115 = .ok (.iload 4, 2) := by decide +kernel
theorem d_MD_findLeast_117 : decode prog_14_method_23_code 117 = .ok (.if_icmp .ge 8, 3) := by decide +kernel
theorem d_MD_findLeast_120 : decode prog_14_method_23_code 120 = .ok (.iload 6, 2) := by decide +kernel
theorem d_MD_findLeast_122 : decode prog_14_method_23_code 122 = .ok (.goto 5, 3) := by decide +kernel
theorem d_MD_findLeast_125 : decode prog_14_method_23_code 125 = .ok (.iload 4, 2) := by decide +kernel
theorem d_MD_findLeast_127 : decode prog_14_method_23_code 127 = .ok (.istore 4, 2) := by decide +kernel
theorem d_MD_findLeast_129 : decode prog_14_method_23_code 129 = .ok (.iinc 5 1, 3) := by decide +kernel
theorem d_MD_findLeast_132 : decode prog_14_method_23_code 132 = .ok (.goto (-68), 3) := by decide +kernel
theorem d_MD_findLeast_135 : decode prog_14_method_23_code 135 = .ok (.aload_n 0, 1) := by decide +kernel
theorem d_MD_findLeast_136 : decode prog_14_method_23_code 136 = .ok (.getfield 45, 3) := by decide +kernel
theorem d_MD_findLeast_139 : decode prog_14_method_23_code 139 = .ok (.iload_n 3, 1) := by decide +kernel
theorem d_MD_findLeast_140 : decode prog_14_method_23_code 140 = .ok (.iload 4, 2) := by decide +kernel
theorem d_MD_findLeast_142 : decode prog_14_method_23_code 142 = .ok (.iastore, 1) := by decide +kernel
theorem d_MD_findLeast_143 : decode prog_14_method_23_code 143 = .ok (.iinc 3 (-1), 3) := by decide +kernel
theorem d_MD_findLeast_146 : decode prog_14_method_23_code 146 = .ok (.goto (-92), 3) := by decide +kernel
theorem d_MD_findLeast_149 : decode prog_14_method_23_code 149 = .ok (.return_, 1) := by decide +kernel
def MD_findLeast_64b (h0 : Nat) (v1 : Int32) (v3 : Int32) (v4 : Int32) (v5 : Int32) (I : jM) (K : jM → Prop) (X54 : Int32 × jM → Prop) (X64 : Int32 × Int32 → Prop) : Prop :=
  (((I h0 0) ≤ v5 → (vp_in v3 4096 ∧ (∀ I_1 : jM, I_1 = jwr I (jr h0 12) v3.toNatClampNeg v4 → X54 ((v3 + (-1)), I_1)))) ∧ (¬ (I h0 0) ≤ v5 → ((¬ ((v3 >>> (v5 &&& 31)) &&& (1 : Int32)) = 0 → X64 (v4, (v5 + 1))) ∧ (((v3 >>> (v5 &&& 31)) &&& (1 : Int32)) = 0 → MD_costOf h0 v5 v3 v1 I (fun r_2 => (vp_in (v3 ||| ((1 : Int32) <<< (v5 &&& 31))) 4096 ∧ MD_joined h0 r_2 (I (jr h0 12) (v3 ||| ((1 : Int32) <<< (v5 &&& 31))).toNatClampNeg) v1 I (fun r_3 => ((v4 < 0 → X64 (r_3, (v5 + 1))) ∧ (¬ v4 < 0 → ((v4 ≤ r_3 → X64 (v4, (v5 + 1))) ∧ (¬ v4 ≤ r_3 → X64 (r_3, (v5 + 1)))))))))))))
def MD_findLeast_64 (h0 : Nat) (v1 : Int32) (v3 : Int32) (v4 : Int32) (v5 : Int32) (I : jM) (K : jM → Prop) (X54 : Int32 × jM → Prop) : Prop :=
  lp (fun (X64 : Int32 × Int32 → Prop) (s : Int32 × Int32) => MD_findLeast_64b h0 v1 v3 s.1 s.2 I K X54 X64) (v4, v5)
set_option maxRecDepth 100000 in
set_option maxHeartbeats 4000000 in
theorem kb_MD_findLeast_64 {Z : jZ} {E : jE} (C : jC Z E prog_14_method_23_code 7 "OutOrderModel" 2 53) (hr : (jZh Z).sig.returnType = none) (hE : E.2.2.2 = jLM)  (h0 : Nat) (v1 : Int32) (v3 : Int32) (v4 : Int32) (v5 : Int32) (I : jM) (g_h0 : jOB E 11 h0) {K : jM → Prop} {X54 : Int32 × jM → Prop} (hX54 : ∀ s : Int32 × jM, X54 s → jJ Z E 7 (jQv Z E K) 54 [(0, .ref (E.2.2.1 h0)), (1, .int v1), (3, .int s.1)] [] s.2) {X64 : Int32 × Int32 → Prop} (hX64 : ∀ s : Int32 × Int32, X64 s → jJ Z E 7 (jQv Z E K) 64 [(0, .ref (E.2.2.1 h0)), (1, .int v1), (3, .int v3), (4, .int s.1), (5, .int s.2)] [] I) (h : MD_findLeast_64b h0 v1 v3 v4 v5 I K X54 X64) : jJ Z E 7 (jQv Z E K) 64 [(0, .ref (E.2.2.1 h0)), (1, .int v1), (3, .int v3), (4, .int v4), (5, .int v5)] [] I := by
  unfold MD_findLeast_64b at h
  refine j_iload C d_MD_findLeast_64 4 rfl ?_
  refine j_aload_n C d_MD_findLeast_66 rfl 0 rfl ?_
  refine fg_MD_7 C g_h0 d_MD_findLeast_67 ?_
  refine j_icmp_ge C d_MD_findLeast_70 (tgt := 135) (by decide) (fun c70 => ?_) (fun c70 => ?_)
  · have h := h.1 c70
    refine j_aload_n C d_MD_findLeast_135 rfl 0 rfl ?_
    refine fg_MD_45 C g_h0 d_MD_findLeast_136 ?_
    refine j_iload_n C d_MD_findLeast_139 rfl 2 rfl ?_
    refine j_iload C d_MD_findLeast_140 3 rfl ?_
    obtain ⟨hi, h⟩ := h
    refine j_iastore C (sh_MD_12 hE g_h0) hi d_MD_findLeast_142 ?_
    have h := h _ rfl
    generalize eI_1 : (jwr I (jr h0 12) v3.toNatClampNeg v4 : jM) = I_1 at h ⊢
    refine j_iinc C d_MD_findLeast_143 2 rfl (v := (v3 + (-1))) rfl (by decide) (lv' := [(3, .int (v3 + (-1))), (0, .ref (E.2.2.1 h0)), (1, .int v1), (4, .int v4), (5, .int v5)]) rfl ?_
    refine j_goto C d_MD_findLeast_146 (tgt := 54) (by decide) ?_
    refine j_lv [1, 2, 0] rfl ?_
    exact hX54 ((v3 + (-1)), I_1) h
  · have h := h.2 c70
    refine j_iload_n C d_MD_findLeast_73 rfl 2 rfl ?_
    refine j_iload C d_MD_findLeast_74 4 rfl ?_
    refine j_ishr C d_MD_findLeast_76 ?_
    refine j_iconst C d_MD_findLeast_77 ic_1 ?_
    refine j_iand C d_MD_findLeast_78 ?_
    refine j_if_ne C d_MD_findLeast_79 (tgt := 129) (by decide) (fun c79 => ?_) (fun c79 => ?_)
    · have h := h.1 c79
      refine j_iinc C d_MD_findLeast_129 4 rfl (v := (v5 + 1)) rfl (by decide) (lv' := [(5, .int (v5 + 1)), (0, .ref (E.2.2.1 h0)), (1, .int v1), (3, .int v3), (4, .int v4)]) rfl ?_
      refine j_goto C d_MD_findLeast_132 (tgt := 64) (by decide) ?_
      refine j_lv [1, 2, 3, 4, 0] rfl ?_
      exact hX64 (v4, (v5 + 1)) h
    · have h := h.2 c79
      refine j_aload_n C d_MD_findLeast_82 rfl 0 rfl ?_
      refine j_aload_n C d_MD_findLeast_83 rfl 0 rfl ?_
      refine j_iload C d_MD_findLeast_84 4 rfl ?_
      refine j_iload_n C d_MD_findLeast_86 rfl 2 rfl ?_
      refine j_iload_n C d_MD_findLeast_87 rfl 1 rfl ?_
      refine j_callVi (As := [.int v5, .int v3, .int v1]) C jcl_MD cw_MD_118 w_885 ws_34 g_h0 rfl rfl (by decide) (by decide) (Nat.le_of_ble_eq_true rfl) d_MD_findLeast_88 (s_MD_costOf C.ok hE g_h0 h) (fun r_2 I2 h => ?_)
      obtain ⟨rfl, h⟩ := h
      refine j_aload_n C d_MD_findLeast_91 rfl 0 rfl ?_
      refine fg_MD_45 C g_h0 d_MD_findLeast_92 ?_
      refine j_iload_n C d_MD_findLeast_95 rfl 2 rfl ?_
      refine j_iconst C d_MD_findLeast_96 ic_1 ?_
      refine j_iload C d_MD_findLeast_97 4 rfl ?_
      refine j_ishl C d_MD_findLeast_99 ?_
      refine j_ior C d_MD_findLeast_100 ?_
      obtain ⟨hi, h⟩ := h
      refine j_iaload C (sh_MD_12 hE g_h0) hi d_MD_findLeast_101 ?_
      refine j_iload_n C d_MD_findLeast_102 rfl 1 rfl ?_
      refine j_callVi (As := [.int r_2, .int (I (jr h0 12) (v3 ||| ((1 : Int32) <<< (v5 &&& 31))).toNatClampNeg), .int v1]) C jcl_MD cw_MD_122 w_893 ws_36 g_h0 rfl rfl (by decide) (by decide) (Nat.le_of_ble_eq_true rfl) d_MD_findLeast_103 (s_MD_joined C.ok g_h0 h) (fun r_3 I2 h => ?_)
      obtain ⟨rfl, h⟩ := h
      refine j_istore C d_MD_findLeast_106 (by decide) (lv' := [(6, .int r_3), (0, .ref (E.2.2.1 h0)), (1, .int v1), (3, .int v3), (4, .int v4), (5, .int v5)]) rfl ?_
      refine j_iload C d_MD_findLeast_108 4 rfl ?_
      refine j_if_lt C d_MD_findLeast_110 (tgt := 120) (by decide) (fun c110 => ?_) (fun c110 => ?_)
      · have h := h.1 c110
        refine j_iload C d_MD_findLeast_120 0 rfl ?_
        refine j_goto C d_MD_findLeast_122 (tgt := 127) (by decide) ?_
        refine j_istore C d_MD_findLeast_127 (by decide) (lv' := [(4, .int r_3), (6, .int r_3), (0, .ref (E.2.2.1 h0)), (1, .int v1), (3, .int v3), (5, .int v5)]) rfl ?_
        refine j_iinc C d_MD_findLeast_129 5 rfl (v := (v5 + 1)) rfl (by decide) (lv' := [(5, .int (v5 + 1)), (4, .int r_3), (6, .int r_3), (0, .ref (E.2.2.1 h0)), (1, .int v1), (3, .int v3)]) rfl ?_
        refine j_goto C d_MD_findLeast_132 (tgt := 64) (by decide) ?_
        refine j_lv [3, 4, 5, 1, 0] rfl ?_
        exact hX64 (r_3, (v5 + 1)) h
      · have h := h.2 c110
        refine j_iload C d_MD_findLeast_113 0 rfl ?_
        refine j_iload C d_MD_findLeast_115 4 rfl ?_
        refine j_icmp_ge C d_MD_findLeast_117 (tgt := 125) (by decide) (fun c117 => ?_) (fun c117 => ?_)
        · have h := h.1 c117
          refine j_iload C d_MD_findLeast_125 4 rfl ?_
          refine j_istore C d_MD_findLeast_127 (by decide) (lv' := [(4, .int v4), (6, .int r_3), (0, .ref (E.2.2.1 h0)), (1, .int v1), (3, .int v3), (5, .int v5)]) rfl ?_
          refine j_iinc C d_MD_findLeast_129 5 rfl (v := (v5 + 1)) rfl (by decide) (lv' := [(5, .int (v5 + 1)), (4, .int v4), (6, .int r_3), (0, .ref (E.2.2.1 h0)), (1, .int v1), (3, .int v3)]) rfl ?_
          refine j_goto C d_MD_findLeast_132 (tgt := 64) (by decide) ?_
          refine j_lv [3, 4, 5, 1, 0] rfl ?_
          exact hX64 (v4, (v5 + 1)) h
        · have h := h.2 c117
          refine j_iload C d_MD_findLeast_120 0 rfl ?_
          refine j_goto C d_MD_findLeast_122 (tgt := 127) (by decide) ?_
          refine j_istore C d_MD_findLeast_127 (by decide) (lv' := [(4, .int r_3), (6, .int r_3), (0, .ref (E.2.2.1 h0)), (1, .int v1), (3, .int v3), (5, .int v5)]) rfl ?_
          refine j_iinc C d_MD_findLeast_129 5 rfl (v := (v5 + 1)) rfl (by decide) (lv' := [(5, .int (v5 + 1)), (4, .int r_3), (6, .int r_3), (0, .ref (E.2.2.1 h0)), (1, .int v1), (3, .int v3)]) rfl ?_
          refine j_goto C d_MD_findLeast_132 (tgt := 64) (by decide) ?_
          refine j_lv [3, 4, 5, 1, 0] rfl ?_
          exact hX64 (r_3, (v5 + 1)) h
theorem k_MD_findLeast_64 {Z : jZ} {E : jE} (C : jC Z E prog_14_method_23_code 7 "OutOrderModel" 2 53) (hr : (jZh Z).sig.returnType = none) (hE : E.2.2.2 = jLM)  (h0 : Nat) (v1 : Int32) (v3 : Int32) (v4 : Int32) (v5 : Int32) (I : jM) (g_h0 : jOB E 11 h0) {K : jM → Prop} {X54 : Int32 × jM → Prop} (hX54 : ∀ s : Int32 × jM, X54 s → jJ Z E 7 (jQv Z E K) 54 [(0, .ref (E.2.2.1 h0)), (1, .int v1), (3, .int s.1)] [] s.2) (h : MD_findLeast_64 h0 v1 v3 v4 v5 I K X54) : jJ Z E 7 (jQv Z E K) 64 [(0, .ref (E.2.2.1 h0)), (1, .int v1), (3, .int v3), (4, .int v4), (5, .int v5)] [] I := by
  unfold MD_findLeast_64 at h
  exact h (fun s => jJ Z E 7 (jQv Z E K) 64 [(0, .ref (E.2.2.1 h0)), (1, .int v1), (3, .int v3), (4, .int s.1), (5, .int s.2)] [] I) (fun s hs => kb_MD_findLeast_64 C hr hE h0 v1 v3 s.1 s.2 I g_h0 hX54 (fun s2 h2 => h2) hs)
def MD_findLeast_54b (h0 : Nat) (v1 : Int32) (v3 : Int32) (I : jM) (K : jM → Prop) (X54 : Int32 × jM → Prop) : Prop :=
  ((v3 < 0 → K I) ∧ (¬ v3 < 0 → MD_findLeast_64 h0 v1 v3 (-1 : Int32) (0 : Int32) I K X54))
def MD_findLeast_54 (h0 : Nat) (v1 : Int32) (v3 : Int32) (I : jM) (K : jM → Prop) : Prop :=
  lp (fun (X54 : Int32 × jM → Prop) (s : Int32 × jM) => MD_findLeast_54b h0 v1 s.1 s.2 K X54) (v3, I)
set_option maxRecDepth 100000 in
set_option maxHeartbeats 4000000 in
theorem kb_MD_findLeast_54 {Z : jZ} {E : jE} (C : jC Z E prog_14_method_23_code 7 "OutOrderModel" 2 53) (hr : (jZh Z).sig.returnType = none) (hE : E.2.2.2 = jLM)  (h0 : Nat) (v1 : Int32) (v3 : Int32) (I : jM) (g_h0 : jOB E 11 h0) {K : jM → Prop} {X54 : Int32 × jM → Prop} (hX54 : ∀ s : Int32 × jM, X54 s → jJ Z E 7 (jQv Z E K) 54 [(0, .ref (E.2.2.1 h0)), (1, .int v1), (3, .int s.1)] [] s.2) (h : MD_findLeast_54b h0 v1 v3 I K X54) : jJ Z E 7 (jQv Z E K) 54 [(0, .ref (E.2.2.1 h0)), (1, .int v1), (3, .int v3)] [] I := by
  unfold MD_findLeast_54b at h
  refine j_iload_n C d_MD_findLeast_54 rfl 2 rfl ?_
  refine j_if_lt C d_MD_findLeast_55 (tgt := 149) (by decide) (fun c55 => ?_) (fun c55 => ?_)
  · have h := h.1 c55
    exact j_vret C hr d_MD_findLeast_149 h
  · have h := h.2 c55
    refine j_iconst C d_MD_findLeast_58 ic_m1 ?_
    refine j_istore C d_MD_findLeast_59 (by decide) (lv' := [(4, .int (-1 : Int32)), (0, .ref (E.2.2.1 h0)), (1, .int v1), (3, .int v3)]) rfl ?_
    refine j_iconst C d_MD_findLeast_61 ic_0 ?_
    refine j_istore C d_MD_findLeast_62 (by decide) (lv' := [(5, .int (0 : Int32)), (4, .int (-1 : Int32)), (0, .ref (E.2.2.1 h0)), (1, .int v1), (3, .int v3)]) rfl ?_
    refine j_lv [2, 3, 4, 1, 0] rfl ?_
    exact k_MD_findLeast_64 C hr hE h0 v1 v3 (-1 : Int32) (0 : Int32) I g_h0 hX54 h
theorem k_MD_findLeast_54 {Z : jZ} {E : jE} (C : jC Z E prog_14_method_23_code 7 "OutOrderModel" 2 53) (hr : (jZh Z).sig.returnType = none) (hE : E.2.2.2 = jLM)  (h0 : Nat) (v1 : Int32) (v3 : Int32) (I : jM) (g_h0 : jOB E 11 h0) {K : jM → Prop} (h : MD_findLeast_54 h0 v1 v3 I K) : jJ Z E 7 (jQv Z E K) 54 [(0, .ref (E.2.2.1 h0)), (1, .int v1), (3, .int v3)] [] I := by
  unfold MD_findLeast_54 at h
  exact h (fun s => jJ Z E 7 (jQv Z E K) 54 [(0, .ref (E.2.2.1 h0)), (1, .int v1), (3, .int s.1)] [] s.2) (fun s hs => kb_MD_findLeast_54 C hr hE h0 v1 s.1 s.2 g_h0 (fun s2 h2 => h2) hs)
def MD_findLeast_31 (h0 : Nat) (v1 : Int32) (r0 : Nat) (s1 : Int32) (I : jM) (K : jM → Prop) : Prop :=
  (∀ I_1 : jM, I_1 = jwr I r0 13 s1 → (∀ v2_2 : Int32, v2_2 = (((1 : Int32) <<< ((I_1 h0 0) &&& 31)) - (1 : Int32)) → (vp_in v2_2 4096 ∧ (∀ I_3 : jM, I_3 = jwr I_1 (jr h0 12) v2_2.toNatClampNeg (0 : Int32) → (∀ v3_4 : Int32, v3_4 = (v2_2 - (1 : Int32)) → MD_findLeast_54 h0 v1 v3_4 I_3 K)))))
set_option maxRecDepth 100000 in
set_option maxHeartbeats 4000000 in
theorem k_MD_findLeast_31 {Z : jZ} {E : jE} (C : jC Z E prog_14_method_23_code 7 "OutOrderModel" 2 53) (hr : (jZh Z).sig.returnType = none) (hE : E.2.2.2 = jLM)  (h0 : Nat) (v1 : Int32) (r0 : Nat) (s1 : Int32) (I : jM) (g_h0 : jOB E 11 h0) (g_r0 : jOB E 11 r0) {K : jM → Prop} (h : MD_findLeast_31 h0 v1 r0 s1 I K) : jJ Z E 7 (jQv Z E K) 31 [(0, .ref (E.2.2.1 h0)), (1, .int v1)] [.int s1, .ref (E.2.2.1 r0)] I := by
  unfold MD_findLeast_31 at h
  refine fp_MD_48 C g_r0 d_MD_findLeast_31 ?_
  have h := h _ rfl
  generalize eI_1 : (jwr I r0 13 s1 : jM) = I_1 at h ⊢
  refine j_iconst C d_MD_findLeast_34 ic_1 ?_
  refine j_aload_n C d_MD_findLeast_35 rfl 0 rfl ?_
  refine fg_MD_7 C g_h0 d_MD_findLeast_36 ?_
  refine j_ishl C d_MD_findLeast_39 ?_
  refine j_iconst C d_MD_findLeast_40 ic_1 ?_
  refine j_isub C d_MD_findLeast_41 ?_
  refine j_topi (fun v2_2 ev2_2 => ?_)
  have h := h v2_2 ev2_2
  refine j_istore_n C d_MD_findLeast_42 rfl (by decide) (lv' := [(2, .int v2_2), (0, .ref (E.2.2.1 h0)), (1, .int v1)]) rfl ?_
  refine j_aload_n C d_MD_findLeast_43 rfl 1 rfl ?_
  refine fg_MD_45 C g_h0 d_MD_findLeast_44 ?_
  refine j_iload_n C d_MD_findLeast_47 rfl 0 rfl ?_
  refine j_iconst C d_MD_findLeast_48 ic_0 ?_
  obtain ⟨hi, h⟩ := h
  refine j_iastore C (sh_MD_12 hE g_h0) hi d_MD_findLeast_49 ?_
  have h := h _ rfl
  generalize eI_3 : (jwr I_1 (jr h0 12) v2_2.toNatClampNeg (0 : Int32) : jM) = I_3 at h ⊢
  refine j_iload_n C d_MD_findLeast_50 rfl 0 rfl ?_
  refine j_iconst C d_MD_findLeast_51 ic_1 ?_
  refine j_isub C d_MD_findLeast_52 ?_
  refine j_topi (fun v3_4 ev3_4 => ?_)
  have h := h v3_4 ev3_4
  refine j_istore_n C d_MD_findLeast_53 rfl (by decide) (lv' := [(3, .int v3_4), (2, .int v2_2), (0, .ref (E.2.2.1 h0)), (1, .int v1)]) rfl ?_
  refine j_lv [2, 3, 0] rfl ?_
  exact k_MD_findLeast_54 C hr hE h0 v1 v3_4 I_3 g_h0 h
def MD_findLeast_17 (h0 : Nat) (v1 : Int32) (s0 : Int32) (s1 : Int32) (I : jM) (K : jM → Prop) : Prop :=
  ((¬ s0 = s1 → ((v1 = 0 → MD_findLeast_31 h0 v1 h0 (0 : Int32) I K) ∧ (¬ v1 = 0 → MD_findLeast_31 h0 v1 h0 (1 : Int32) I K))) ∧ (s0 = s1 → K I))
set_option maxRecDepth 100000 in
set_option maxHeartbeats 4000000 in
theorem k_MD_findLeast_17 {Z : jZ} {E : jE} (C : jC Z E prog_14_method_23_code 7 "OutOrderModel" 2 53) (hr : (jZh Z).sig.returnType = none) (hE : E.2.2.2 = jLM)  (h0 : Nat) (v1 : Int32) (s0 : Int32) (s1 : Int32) (I : jM) (g_h0 : jOB E 11 h0) {K : jM → Prop} (h : MD_findLeast_17 h0 v1 s0 s1 I K) : jJ Z E 7 (jQv Z E K) 17 [(0, .ref (E.2.2.1 h0)), (1, .int v1)] [.int s1, .int s0] I := by
  unfold MD_findLeast_17 at h
  refine j_icmp_ne C d_MD_findLeast_17 (tgt := 21) (by decide) (fun c17 => ?_) (fun c17 => ?_)
  · have h := h.1 c17
    refine j_aload_n C d_MD_findLeast_21 rfl 0 rfl ?_
    refine j_iload_n C d_MD_findLeast_22 rfl 1 rfl ?_
    refine j_if_eq C d_MD_findLeast_23 (tgt := 30) (by decide) (fun c23 => ?_) (fun c23 => ?_)
    · have h := h.1 c23
      refine j_iconst C d_MD_findLeast_30 ic_0 ?_
      refine j_lv [0, 1] rfl ?_
      exact k_MD_findLeast_31 C hr hE h0 v1 h0 (0 : Int32) I g_h0 g_h0 h
    · have h := h.2 c23
      refine j_iconst C d_MD_findLeast_26 ic_1 ?_
      refine j_goto C d_MD_findLeast_27 (tgt := 31) (by decide) ?_
      refine j_lv [0, 1] rfl ?_
      exact k_MD_findLeast_31 C hr hE h0 v1 h0 (1 : Int32) I g_h0 g_h0 h
  · have h := h.2 c17
    exact j_vret C hr d_MD_findLeast_20 h
/-- OutOrderModel.findLeast(Z)V -/
def MD_findLeast (h0 : Nat) (v1 : Int32) (I : jM) (K : jM → Prop) : Prop :=
  MD_beginNet h0 I (fun I_2 => ((v1 = 0 → MD_findLeast_17 h0 v1 (I_2 h0 13) (0 : Int32) I_2 K) ∧ (¬ v1 = 0 → MD_findLeast_17 h0 v1 (I_2 h0 13) (1 : Int32) I_2 K)))
set_option maxRecDepth 100000 in
set_option maxHeartbeats 4000000 in
theorem s_MD_findLeast {l : Launch} {E : jE} (ok : jOK E) (hE : E.2.2.2 = jLM) {h0 : Nat} {v1 : Int32} (g_h0 : jOB E 11 h0) {I : jM} {K : jM → Prop} (h : MD_findLeast h0 v1 I K) : jSv l E ⟨"OutOrderModel", "findLeast", "(Z)V"⟩ prog_14_method_23_code 7 none 2 53 [.ref (E.2.2.1 h0), .int v1] I K := by
  refine jS_ofF (own := "OutOrderModel") (by decide +kernel) rfl ok (Nat.le_of_ble_eq_true rfl) (fun Z _ C hr => ?_)
  show jJ Z E 7 (jQv Z E K) 0 [(0, .ref (E.2.2.1 h0)), (1, .int v1)] [] I
  unfold MD_findLeast at h
  refine j_aload_n C d_MD_findLeast_0 rfl 0 rfl ?_
  refine j_callVv (As := []) C jcl_MD cw_MD_100 w_821 ws_25 g_h0 rfl rfl (by decide) (by decide) (Nat.le_of_ble_eq_true rfl) d_MD_findLeast_1 (s_MD_beginNet C.ok hE g_h0 h) (fun I_2 h => ?_)
  refine j_aload_n C d_MD_findLeast_4 rfl 0 rfl ?_
  refine fg_MD_48 C g_h0 d_MD_findLeast_5 ?_
  refine j_iload_n C d_MD_findLeast_8 rfl 1 rfl ?_
  refine j_if_eq C d_MD_findLeast_9 (tgt := 16) (by decide) (fun c9 => ?_) (fun c9 => ?_)
  · have h := h.1 c9
    refine j_iconst C d_MD_findLeast_16 ic_0 ?_
    refine j_lv [0, 1] rfl ?_
    exact k_MD_findLeast_17 C hr hE h0 v1 (I_2 h0 13) (0 : Int32) I_2 g_h0 h
  · have h := h.2 c9
    refine j_iconst C d_MD_findLeast_12 ic_1 ?_
    refine j_goto C d_MD_findLeast_13 (tgt := 17) (by decide) ?_
    refine j_lv [0, 1] rfl ?_
    exact k_MD_findLeast_17 C hr hE h0 v1 (I_2 h0 13) (1 : Int32) I_2 g_h0 h
theorem d_MD_byLeast_0 : decode prog_14_method_24_code 0 = .ok (.aload_n 0, 1) := by decide +kernel
theorem d_MD_byLeast_1 : decode prog_14_method_24_code 1 = .ok (.iload_n 1, 1) := by decide +kernel
theorem d_MD_byLeast_2 : decode prog_14_method_24_code 2 = .ok (.invokevirtual 125, 3) := by decide +kernel
theorem d_MD_byLeast_5 : decode prog_14_method_24_code 5 = .ok (.iconst 0, 1) := by decide +kernel
theorem d_MD_byLeast_6 : decode prog_14_method_24_code 6 = .ok (.istore_n 2, 1) := by decide +kernel
theorem d_MD_byLeast_7 : decode prog_14_method_24_code 7 = .ok (.aload_n 0, 1) := by decide +kernel
theorem d_MD_byLeast_8 : decode prog_14_method_24_code 8 = .ok (.getfield 45, 3) := by decide +kernel
theorem d_MD_byLeast_11 : decode prog_14_method_24_code 11 = .ok (.iconst 0, 1) := by decide +kernel
theorem d_MD_byLeast_12 : decode prog_14_method_24_code 12 = .ok (.iaload, 1) := by decide +kernel
theorem d_MD_byLeast_13 : decode prog_14_method_24_code 13 = .ok (.istore_n 3, 1) := by decide +kernel
theorem d_MD_byLeast_14 : decode prog_14_method_24_code 14 = .ok (.iconst 0, 1) := by decide +kernel
theorem d_MD_byLeast_15 : decode prog_14_method_24_code 15 = .ok (.istore 4, 2) := by decide +kernel
theorem d_MD_byLeast_17 : decode prog_14_method_24_code 17 = .ok (.iload 4, 2) := by decide +kernel
theorem d_MD_byLeast_19 : decode prog_14_method_24_code 19 = .ok (.aload_n 0, 1) := by decide +kernel
theorem d_MD_byLeast_20 : decode prog_14_method_24_code 20 = .ok (.getfield 7, 3) := by decide +kernel
theorem d_MD_byLeast_23 : decode prog_14_method_24_code 23 = .ok (.if_icmp .ge 125, 3) := by decide +kernel
theorem d_MD_byLeast_26 : decode prog_14_method_24_code 26 = .ok (.iconst 0, 1) := by decide +kernel
theorem d_MD_byLeast_27 : decode prog_14_method_24_code 27 = .ok (.istore 5, 2) := by decide +kernel
theorem d_MD_byLeast_29 : decode prog_14_method_24_code 29 = .ok (.iconst 0, 1) := by decide +kernel
theorem d_MD_byLeast_30 : decode prog_14_method_24_code 30 = .ok (.istore 6, 2) := by decide +kernel
theorem d_MD_byLeast_32 : decode prog_14_method_24_code 32 = .ok (.iload 6, 2) := by decide +kernel
theorem d_MD_byLeast_34 : decode prog_14_method_24_code 34 = .ok (.ifCond .ne 92, 3) := by decide +kernel
theorem d_MD_byLeast_37 : decode prog_14_method_24_code 37 = .ok (.iload_n 2, 1) := by decide +kernel
theorem d_MD_byLeast_38 : decode prog_14_method_24_code 38 = .ok (.iload 5, 2) := by decide +kernel
theorem d_MD_byLeast_40 : decode prog_14_method_24_code 40 = .ok (.ishr, 1) := by decide +kernel
theorem d_MD_byLeast_41 : decode prog_14_method_24_code 41 = .ok (.iconst 1, 1) := by decide +kernel
theorem d_MD_byLeast_42 : decode prog_14_method_24_code 42 = .ok (.iand, 1) := by decide +kernel
theorem d_MD_byLeast_43 : decode prog_14_method_24_code 43 = .ok (.ifCond .ne 65, 3) := by decide +kernel
theorem d_MD_byLeast_46 : decode prog_14_method_24_code 46 = .ok (.aload_n 0, 1) := by decide +kernel
theorem d_MD_byLeast_47 : decode prog_14_method_24_code 47 = .ok (.aload_n 0, 1) := by decide +kernel
theorem d_MD_byLeast_48 : decode prog_14_method_24_code 48 = .ok (.iload 5, 2) := by decide +kernel
theorem d_MD_byLeast_50 : decode prog_14_method_24_code 50 = .ok (.iload_n 2, 1) := by decide +kernel
theorem d_MD_byLeast_51 : decode prog_14_method_24_code 51 = .ok (.iload_n 1, 1) := by decide +kernel
theorem d_MD_byLeast_52 : decode prog_14_method_24_code 52 = .ok (.invokevirtual 118, 3) := by decide +kernel
theorem d_MD_byLeast_55 : decode prog_14_method_24_code 55 = .ok (.aload_n 0, 1) := by decide +kernel
theorem d_MD_byLeast_56 : decode prog_14_method_24_code 56 = .ok (.getfield 45, 3) := by decide +kernel
theorem d_MD_byLeast_59 : decode prog_14_method_24_code 59 = .ok (.iload_n 2, 1) := by decide +kernel
theorem d_MD_byLeast_60 : decode prog_14_method_24_code 60 = .ok (.iconst 1, 1) := by decide +kernel
theorem d_MD_byLeast_61 : decode prog_14_method_24_code 61 = .ok (.iload 5, 2) := by decide +kernel
theorem d_MD_byLeast_63 : decode prog_14_method_24_code 63 = .ok (.ishl, 1) := by decide +kernel
theorem d_MD_byLeast_64 : decode prog_14_method_24_code 64 = .ok (.ior, 1) := by decide +kernel
theorem d_MD_byLeast_65 : decode prog_14_method_24_code 65 = .ok (.iaload, 1) := by decide +kernel
theorem d_MD_byLeast_66 : decode prog_14_method_24_code 66 = .ok (.iload_n 1, 1) := by decide +kernel
theorem d_MD_byLeast_67 : decode prog_14_method_24_code 67 = .ok (.invokevirtual 122, 3) := by decide +kernel
theorem d_MD_byLeast_70 : decode prog_14_method_24_code 70 = .ok (.istore 7, 2) := by decide +kernel
theorem d_MD_byLeast_72 : decode prog_14_method_24_code 72 = .ok (.iload_n 1, 1) := by decide +kernel
theorem d_MD_byLeast_73 : decode prog_14_method_24_code 73 = .ok (.ifCond .eq 22, 3) := by decide +kernel
theorem d_MD_byLeast_76 : decode prog_14_method_24_code 76 = .ok (.iload 7, 2) := by decide +kernel
theorem d_MD_byLeast_78 : decode prog_14_method_24_code 78 = .ok (.aload_n 0, 1) := by decide +kernel
theorem d_MD_byLeast_79 : decode prog_14_method_24_code 79 = .ok (.getfield 45, 3) := by decide +kernel
theorem d_MD_byLeast_82 : decode prog_14_method_24_code 82 = .ok (.iload_n 2, 1) := by decide +kernel
theorem d_MD_byLeast_83 : decode prog_14_method_24_code 83 = .ok (.iaload, 1) := by decide +kernel
theorem d_MD_byLeast_84 : decode prog_14_method_24_code 84 = .ok (.if_icmp .ne 7, 3) := by decide +kernel
theorem d_MD_byLeast_87 : decode prog_14_method_24_code 87 = .ok (.iconst 1, 1) := by decide +kernel
theorem d_MD_byLeast_88 : decode prog_14_method_24_code 88 = .ok (.goto 18, 3) := by decide +kernel
theorem d_MD_byLeast_91 : decode prog_14_method_24_code 91 = .ok (.iconst 0, 1) := by decide +kernel
theorem d_MD_byLeast_92 : decode prog_14_method_24_code 92 = .ok (.goto 14, 3) := by decide +kernel
theorem d_MD_byLeast_95 : decode prog_14_method_24_code 95 = .ok (.iload 7, 2) := by decide +kernel
theorem d_MD_byLeast_97 : decode prog_14_method_24_code 97 = .ok (.iload_n 3, 1) := by decide +kernel
theorem d_MD_byLeast_98 : decode prog_14_method_24_code 98 = .ok (.if_icmp .gt 7, 3) := by decide +kernel
theorem d_MD_byLeast_101 : decode prog_14_method_24_code 101 = .ok (.iconst 1, 1) := by decide +kernel
theorem d_MD_byLeast_102 : decode prog_14_method_24_code 102 = .ok (.goto 4, 3) := by decide +kernel
theorem d_MD_byLeast_105 : decode prog_14_method_24_code 105 = .ok (.iconst 0, 1) := by decide +kernel
theorem d_MD_byLeast_106 : decode prog_14_method_24_code 106 = .ok (.istore 6, 2) := by decide +kernel
theorem d_MD_byLeast_108 : decode prog_14_method_24_code 108 = .ok (.iload 5, 2) := by decide +kernel
theorem d_MD_byLeast_110 : decode prog_14_method_24_code 110 = .ok (.iload 6, 2) := by decide +kernel
theorem d_MD_byLeast_112 : decode prog_14_method_24_code 112 = .ok (.ifCond .eq 7, 3) := by decide +kernel
theorem d_MD_byLeast_115 : decode prog_14_method_24_code 115 = .ok (.iconst 0, 1) := by decide +kernel
theorem d_MD_byLeast_116 : decode prog_14_method_24_code 116 = .ok (.goto 4, 3) := by decide +kernel
theorem d_MD_byLeast_119 : decode prog_14_method_24_code 119 = .ok (.iconst 1, 1) := by decide +kernel
theorem d_MD_byLeast_120 : decode prog_14_method_24_code 120 = .ok (.iadd, 1) := by decide +kernel
theorem d_MD_byLeast_121 : decode prog_14_method_24_code 121 = .ok (.istore 5, 2) := by decide +kernel
theorem d_MD_byLeast_123 : decode prog_14_method_24_code 123 = .ok (.goto (-91), 3) := by decide +kernel
theorem d_MD_byLeast_126 : decode prog_14_method_24_code 126 = .ok (.aload_n 0, 1) := by decide +kernel
theorem d_MD_byLeast_127 : decode prog_14_method_24_code 127 = .ok (.getfield 24, 3) := by decide +kernel
theorem d_MD_byLeast_130 : decode prog_14_method_24_code 130 = .ok (.iload 4, 2) := by decide +kernel
theorem d_MD_byLeast_132 : decode prog_14_method_24_code 132 = .ok (.iload 5, 2) := by decide +kernel
theorem d_MD_byLeast_134 : decode prog_14_method_24_code 134 = .ok (.iastore, 1) := by decide +kernel
theorem d_MD_byLeast_135 : decode prog_14_method_24_code 135 = .ok (.iload_n 2, 1) := by decide +kernel
theorem d_MD_byLeast_136 : decode prog_14_method_24_code 136 = .ok (.iconst 1, 1) := by decide +kernel
theorem d_MD_byLeast_137 : decode prog_14_method_24_code 137 = .ok (.iload 5, 2) := by decide +kernel
theorem d_MD_byLeast_139 : decode prog_14_method_24_code 139 = .ok (.ishl, 1) := by decide +kernel
theorem d_MD_byLeast_140 : decode prog_14_method_24_code 140 = .ok (.ior, 1) := by decide +kernel
theorem d_MD_byLeast_141 : decode prog_14_method_24_code 141 = .ok (.istore_n 2, 1) := by decide +kernel
theorem d_MD_byLeast_142 : decode prog_14_method_24_code 142 = .ok (.iinc 4 1, 3) := by decide +kernel
theorem d_MD_byLeast_145 : decode prog_14_method_24_code 145 = .ok (.goto (-128), 3) := by decide +kernel
theorem d_MD_byLeast_148 : decode prog_14_method_24_code 148 = .ok (.return_, 1) := by decide +kernel
def MD_byLeast_108 (h0 : Nat) (v1 : Int32) (v2 : Int32) (v3 : Int32) (v4 : Int32) (v5 : Int32) (v6 : Int32) (I : jM) (K : jM → Prop) (X17 : Int32 × Int32 × jM → Prop) (X32 : Int32 × Int32 → Prop) : Prop :=
  ((v6 = 0 → (∀ v5_1 : Int32, v5_1 = (v5 + (1 : Int32)) → X32 (v5_1, v6))) ∧ (¬ v6 = 0 → (∀ v5_2 : Int32, v5_2 = (v5 + (0 : Int32)) → X32 (v5_2, v6))))
set_option maxRecDepth 100000 in
set_option maxHeartbeats 4000000 in
theorem k_MD_byLeast_108 {Z : jZ} {E : jE} (C : jC Z E prog_14_method_24_code 8 "OutOrderModel" 3 79) (hr : (jZh Z).sig.returnType = none) (hE : E.2.2.2 = jLM)  (h0 : Nat) (v1 : Int32) (v2 : Int32) (v3 : Int32) (v4 : Int32) (v5 : Int32) (v6 : Int32) (I : jM) (g_h0 : jOB E 11 h0) {K : jM → Prop} {X17 : Int32 × Int32 × jM → Prop} {X32 : Int32 × Int32 → Prop} (hX17 : ∀ s : Int32 × Int32 × jM, X17 s → jJ Z E 8 (jQv Z E K) 17 [(0, .ref (E.2.2.1 h0)), (1, .int v1), (2, .int s.1), (3, .int v3), (4, .int s.2.1)] [] s.2.2) (hX32 : ∀ s : Int32 × Int32, X32 s → jJ Z E 8 (jQv Z E K) 32 [(0, .ref (E.2.2.1 h0)), (1, .int v1), (2, .int v2), (3, .int v3), (4, .int v4), (5, .int s.1), (6, .int s.2)] [] I) (h : MD_byLeast_108 h0 v1 v2 v3 v4 v5 v6 I K X17 X32) : jJ Z E 8 (jQv Z E K) 108 [(0, .ref (E.2.2.1 h0)), (1, .int v1), (2, .int v2), (3, .int v3), (4, .int v4), (5, .int v5), (6, .int v6)] [] I := by
  unfold MD_byLeast_108 at h
  refine j_iload C d_MD_byLeast_108 5 rfl ?_
  refine j_iload C d_MD_byLeast_110 6 rfl ?_
  refine j_if_eq C d_MD_byLeast_112 (tgt := 119) (by decide) (fun c112 => ?_) (fun c112 => ?_)
  · have h := h.1 c112
    refine j_iconst C d_MD_byLeast_119 ic_1 ?_
    refine j_iadd C d_MD_byLeast_120 ?_
    refine j_topi (fun v5_1 ev5_1 => ?_)
    have h := h v5_1 ev5_1
    refine j_istore C d_MD_byLeast_121 (by decide) (lv' := [(5, .int v5_1), (0, .ref (E.2.2.1 h0)), (1, .int v1), (2, .int v2), (3, .int v3), (4, .int v4), (6, .int v6)]) rfl ?_
    refine j_goto C d_MD_byLeast_123 (tgt := 32) (by decide) ?_
    refine j_lv [1, 2, 3, 4, 5, 0, 6] rfl ?_
    exact hX32 (v5_1, v6) h
  · have h := h.2 c112
    refine j_iconst C d_MD_byLeast_115 ic_0 ?_
    refine j_goto C d_MD_byLeast_116 (tgt := 120) (by decide) ?_
    refine j_iadd C d_MD_byLeast_120 ?_
    refine j_topi (fun v5_2 ev5_2 => ?_)
    have h := h v5_2 ev5_2
    refine j_istore C d_MD_byLeast_121 (by decide) (lv' := [(5, .int v5_2), (0, .ref (E.2.2.1 h0)), (1, .int v1), (2, .int v2), (3, .int v3), (4, .int v4), (6, .int v6)]) rfl ?_
    refine j_goto C d_MD_byLeast_123 (tgt := 32) (by decide) ?_
    refine j_lv [1, 2, 3, 4, 5, 0, 6] rfl ?_
    exact hX32 (v5_2, v6) h
def MD_byLeast_32b (h0 : Nat) (v1 : Int32) (v2 : Int32) (v3 : Int32) (v4 : Int32) (v5 : Int32) (v6 : Int32) (I : jM) (K : jM → Prop) (X17 : Int32 × Int32 × jM → Prop) (X32 : Int32 × Int32 → Prop) : Prop :=
  ((¬ v6 = 0 → (vp_in v4 24 ∧ (∀ I_1 : jM, I_1 = jwr I (jr h0 4) v4.toNatClampNeg v5 → (∀ v2_2 : Int32, v2_2 = (v2 ||| ((1 : Int32) <<< (v5 &&& 31))) → X17 (v2_2, (v4 + 1), I_1))))) ∧ (v6 = 0 → ((¬ ((v2 >>> (v5 &&& 31)) &&& (1 : Int32)) = 0 → MD_byLeast_108 h0 v1 v2 v3 v4 v5 v6 I K X17 X32) ∧ (((v2 >>> (v5 &&& 31)) &&& (1 : Int32)) = 0 → MD_costOf h0 v5 v2 v1 I (fun r_3 => (vp_in (v2 ||| ((1 : Int32) <<< (v5 &&& 31))) 4096 ∧ MD_joined h0 r_3 (I (jr h0 12) (v2 ||| ((1 : Int32) <<< (v5 &&& 31))).toNatClampNeg) v1 I (fun r_4 => ((v1 = 0 → ((v3 < r_4 → MD_byLeast_108 h0 v1 v2 v3 v4 v5 (0 : Int32) I K X17 X32) ∧ (¬ v3 < r_4 → MD_byLeast_108 h0 v1 v2 v3 v4 v5 (1 : Int32) I K X17 X32))) ∧ (¬ v1 = 0 → (vp_in v2 4096 ∧ ((¬ r_4 = (I (jr h0 12) v2.toNatClampNeg) → MD_byLeast_108 h0 v1 v2 v3 v4 v5 (0 : Int32) I K X17 X32) ∧ (r_4 = (I (jr h0 12) v2.toNatClampNeg) → MD_byLeast_108 h0 v1 v2 v3 v4 v5 (1 : Int32) I K X17 X32))))))))))))
def MD_byLeast_32 (h0 : Nat) (v1 : Int32) (v2 : Int32) (v3 : Int32) (v4 : Int32) (v5 : Int32) (v6 : Int32) (I : jM) (K : jM → Prop) (X17 : Int32 × Int32 × jM → Prop) : Prop :=
  lp (fun (X32 : Int32 × Int32 → Prop) (s : Int32 × Int32) => MD_byLeast_32b h0 v1 v2 v3 v4 s.1 s.2 I K X17 X32) (v5, v6)
set_option maxRecDepth 100000 in
set_option maxHeartbeats 4000000 in
theorem kb_MD_byLeast_32 {Z : jZ} {E : jE} (C : jC Z E prog_14_method_24_code 8 "OutOrderModel" 3 79) (hr : (jZh Z).sig.returnType = none) (hE : E.2.2.2 = jLM)  (h0 : Nat) (v1 : Int32) (v2 : Int32) (v3 : Int32) (v4 : Int32) (v5 : Int32) (v6 : Int32) (I : jM) (g_h0 : jOB E 11 h0) {K : jM → Prop} {X17 : Int32 × Int32 × jM → Prop} (hX17 : ∀ s : Int32 × Int32 × jM, X17 s → jJ Z E 8 (jQv Z E K) 17 [(0, .ref (E.2.2.1 h0)), (1, .int v1), (2, .int s.1), (3, .int v3), (4, .int s.2.1)] [] s.2.2) {X32 : Int32 × Int32 → Prop} (hX32 : ∀ s : Int32 × Int32, X32 s → jJ Z E 8 (jQv Z E K) 32 [(0, .ref (E.2.2.1 h0)), (1, .int v1), (2, .int v2), (3, .int v3), (4, .int v4), (5, .int s.1), (6, .int s.2)] [] I) (h : MD_byLeast_32b h0 v1 v2 v3 v4 v5 v6 I K X17 X32) : jJ Z E 8 (jQv Z E K) 32 [(0, .ref (E.2.2.1 h0)), (1, .int v1), (2, .int v2), (3, .int v3), (4, .int v4), (5, .int v5), (6, .int v6)] [] I := by
  unfold MD_byLeast_32b at h
  refine j_iload C d_MD_byLeast_32 6 rfl ?_
  refine j_if_ne C d_MD_byLeast_34 (tgt := 126) (by decide) (fun c34 => ?_) (fun c34 => ?_)
  · have h := h.1 c34
    refine j_aload_n C d_MD_byLeast_126 rfl 0 rfl ?_
    refine fg_MD_24 C g_h0 d_MD_byLeast_127 ?_
    refine j_iload C d_MD_byLeast_130 4 rfl ?_
    refine j_iload C d_MD_byLeast_132 5 rfl ?_
    obtain ⟨hi, h⟩ := h
    refine j_iastore C (sh_MD_4 hE g_h0) hi d_MD_byLeast_134 ?_
    have h := h _ rfl
    generalize eI_1 : (jwr I (jr h0 4) v4.toNatClampNeg v5 : jM) = I_1 at h ⊢
    refine j_iload_n C d_MD_byLeast_135 rfl 2 rfl ?_
    refine j_iconst C d_MD_byLeast_136 ic_1 ?_
    refine j_iload C d_MD_byLeast_137 5 rfl ?_
    refine j_ishl C d_MD_byLeast_139 ?_
    refine j_ior C d_MD_byLeast_140 ?_
    refine j_topi (fun v2_2 ev2_2 => ?_)
    have h := h v2_2 ev2_2
    refine j_istore_n C d_MD_byLeast_141 rfl (by decide) (lv' := [(2, .int v2_2), (0, .ref (E.2.2.1 h0)), (1, .int v1), (3, .int v3), (4, .int v4), (5, .int v5), (6, .int v6)]) rfl ?_
    refine j_iinc C d_MD_byLeast_142 4 rfl (v := (v4 + 1)) rfl (by decide) (lv' := [(4, .int (v4 + 1)), (2, .int v2_2), (0, .ref (E.2.2.1 h0)), (1, .int v1), (3, .int v3), (5, .int v5), (6, .int v6)]) rfl ?_
    refine j_goto C d_MD_byLeast_145 (tgt := 17) (by decide) ?_
    refine j_lv [2, 3, 1, 4, 0] rfl ?_
    exact hX17 (v2_2, (v4 + 1), I_1) h
  · have h := h.2 c34
    refine j_iload_n C d_MD_byLeast_37 rfl 2 rfl ?_
    refine j_iload C d_MD_byLeast_38 5 rfl ?_
    refine j_ishr C d_MD_byLeast_40 ?_
    refine j_iconst C d_MD_byLeast_41 ic_1 ?_
    refine j_iand C d_MD_byLeast_42 ?_
    refine j_if_ne C d_MD_byLeast_43 (tgt := 108) (by decide) (fun c43 => ?_) (fun c43 => ?_)
    · have h := h.1 c43
      refine j_lv [0, 1, 2, 3, 4, 5, 6] rfl ?_
      exact k_MD_byLeast_108 C hr hE h0 v1 v2 v3 v4 v5 v6 I g_h0 hX17 hX32 h
    · have h := h.2 c43
      refine j_aload_n C d_MD_byLeast_46 rfl 0 rfl ?_
      refine j_aload_n C d_MD_byLeast_47 rfl 0 rfl ?_
      refine j_iload C d_MD_byLeast_48 5 rfl ?_
      refine j_iload_n C d_MD_byLeast_50 rfl 2 rfl ?_
      refine j_iload_n C d_MD_byLeast_51 rfl 1 rfl ?_
      refine j_callVi (As := [.int v5, .int v2, .int v1]) C jcl_MD cw_MD_118 w_885 ws_34 g_h0 rfl rfl (by decide) (by decide) (Nat.le_of_ble_eq_true rfl) d_MD_byLeast_52 (s_MD_costOf C.ok hE g_h0 h) (fun r_3 I2 h => ?_)
      obtain ⟨rfl, h⟩ := h
      refine j_aload_n C d_MD_byLeast_55 rfl 0 rfl ?_
      refine fg_MD_45 C g_h0 d_MD_byLeast_56 ?_
      refine j_iload_n C d_MD_byLeast_59 rfl 2 rfl ?_
      refine j_iconst C d_MD_byLeast_60 ic_1 ?_
      refine j_iload C d_MD_byLeast_61 5 rfl ?_
      refine j_ishl C d_MD_byLeast_63 ?_
      refine j_ior C d_MD_byLeast_64 ?_
      obtain ⟨hi, h⟩ := h
      refine j_iaload C (sh_MD_12 hE g_h0) hi d_MD_byLeast_65 ?_
      refine j_iload_n C d_MD_byLeast_66 rfl 1 rfl ?_
      refine j_callVi (As := [.int r_3, .int (I (jr h0 12) (v2 ||| ((1 : Int32) <<< (v5 &&& 31))).toNatClampNeg), .int v1]) C jcl_MD cw_MD_122 w_893 ws_36 g_h0 rfl rfl (by decide) (by decide) (Nat.le_of_ble_eq_true rfl) d_MD_byLeast_67 (s_MD_joined C.ok g_h0 h) (fun r_4 I2 h => ?_)
      obtain ⟨rfl, h⟩ := h
      refine j_istore C d_MD_byLeast_70 (by decide) (lv' := [(7, .int r_4), (0, .ref (E.2.2.1 h0)), (1, .int v1), (2, .int v2), (3, .int v3), (4, .int v4), (5, .int v5), (6, .int v6)]) rfl ?_
      refine j_iload_n C d_MD_byLeast_72 rfl 2 rfl ?_
      refine j_if_eq C d_MD_byLeast_73 (tgt := 95) (by decide) (fun c73 => ?_) (fun c73 => ?_)
      · have h := h.1 c73
        refine j_iload C d_MD_byLeast_95 0 rfl ?_
        refine j_iload_n C d_MD_byLeast_97 rfl 4 rfl ?_
        refine j_icmp_gt C d_MD_byLeast_98 (tgt := 105) (by decide) (fun c98 => ?_) (fun c98 => ?_)
        · have h := h.1 c98
          refine j_iconst C d_MD_byLeast_105 ic_0 ?_
          refine j_istore C d_MD_byLeast_106 (by decide) (lv' := [(6, .int (0 : Int32)), (7, .int r_4), (0, .ref (E.2.2.1 h0)), (1, .int v1), (2, .int v2), (3, .int v3), (4, .int v4), (5, .int v5)]) rfl ?_
          refine j_lv [2, 3, 4, 5, 6, 7, 0] rfl ?_
          exact k_MD_byLeast_108 C hr hE h0 v1 v2 v3 v4 v5 (0 : Int32) I g_h0 hX17 hX32 h
        · have h := h.2 c98
          refine j_iconst C d_MD_byLeast_101 ic_1 ?_
          refine j_goto C d_MD_byLeast_102 (tgt := 106) (by decide) ?_
          refine j_istore C d_MD_byLeast_106 (by decide) (lv' := [(6, .int (1 : Int32)), (7, .int r_4), (0, .ref (E.2.2.1 h0)), (1, .int v1), (2, .int v2), (3, .int v3), (4, .int v4), (5, .int v5)]) rfl ?_
          refine j_lv [2, 3, 4, 5, 6, 7, 0] rfl ?_
          exact k_MD_byLeast_108 C hr hE h0 v1 v2 v3 v4 v5 (1 : Int32) I g_h0 hX17 hX32 h
      · have h := h.2 c73
        refine j_iload C d_MD_byLeast_76 0 rfl ?_
        refine j_aload_n C d_MD_byLeast_78 rfl 1 rfl ?_
        refine fg_MD_45 C g_h0 d_MD_byLeast_79 ?_
        refine j_iload_n C d_MD_byLeast_82 rfl 3 rfl ?_
        obtain ⟨hi, h⟩ := h
        refine j_iaload C (sh_MD_12 hE g_h0) hi d_MD_byLeast_83 ?_
        refine j_icmp_ne C d_MD_byLeast_84 (tgt := 91) (by decide) (fun c84 => ?_) (fun c84 => ?_)
        · have h := h.1 c84
          refine j_iconst C d_MD_byLeast_91 ic_0 ?_
          refine j_goto C d_MD_byLeast_92 (tgt := 106) (by decide) ?_
          refine j_istore C d_MD_byLeast_106 (by decide) (lv' := [(6, .int (0 : Int32)), (7, .int r_4), (0, .ref (E.2.2.1 h0)), (1, .int v1), (2, .int v2), (3, .int v3), (4, .int v4), (5, .int v5)]) rfl ?_
          refine j_lv [2, 3, 4, 5, 6, 7, 0] rfl ?_
          exact k_MD_byLeast_108 C hr hE h0 v1 v2 v3 v4 v5 (0 : Int32) I g_h0 hX17 hX32 h
        · have h := h.2 c84
          refine j_iconst C d_MD_byLeast_87 ic_1 ?_
          refine j_goto C d_MD_byLeast_88 (tgt := 106) (by decide) ?_
          refine j_istore C d_MD_byLeast_106 (by decide) (lv' := [(6, .int (1 : Int32)), (7, .int r_4), (0, .ref (E.2.2.1 h0)), (1, .int v1), (2, .int v2), (3, .int v3), (4, .int v4), (5, .int v5)]) rfl ?_
          refine j_lv [2, 3, 4, 5, 6, 7, 0] rfl ?_
          exact k_MD_byLeast_108 C hr hE h0 v1 v2 v3 v4 v5 (1 : Int32) I g_h0 hX17 hX32 h
theorem k_MD_byLeast_32 {Z : jZ} {E : jE} (C : jC Z E prog_14_method_24_code 8 "OutOrderModel" 3 79) (hr : (jZh Z).sig.returnType = none) (hE : E.2.2.2 = jLM)  (h0 : Nat) (v1 : Int32) (v2 : Int32) (v3 : Int32) (v4 : Int32) (v5 : Int32) (v6 : Int32) (I : jM) (g_h0 : jOB E 11 h0) {K : jM → Prop} {X17 : Int32 × Int32 × jM → Prop} (hX17 : ∀ s : Int32 × Int32 × jM, X17 s → jJ Z E 8 (jQv Z E K) 17 [(0, .ref (E.2.2.1 h0)), (1, .int v1), (2, .int s.1), (3, .int v3), (4, .int s.2.1)] [] s.2.2) (h : MD_byLeast_32 h0 v1 v2 v3 v4 v5 v6 I K X17) : jJ Z E 8 (jQv Z E K) 32 [(0, .ref (E.2.2.1 h0)), (1, .int v1), (2, .int v2), (3, .int v3), (4, .int v4), (5, .int v5), (6, .int v6)] [] I := by
  unfold MD_byLeast_32 at h
  exact h (fun s => jJ Z E 8 (jQv Z E K) 32 [(0, .ref (E.2.2.1 h0)), (1, .int v1), (2, .int v2), (3, .int v3), (4, .int v4), (5, .int s.1), (6, .int s.2)] [] I) (fun s hs => kb_MD_byLeast_32 C hr hE h0 v1 v2 v3 v4 s.1 s.2 I g_h0 hX17 (fun s2 h2 => h2) hs)
def MD_byLeast_17b (h0 : Nat) (v1 : Int32) (v2 : Int32) (v3 : Int32) (v4 : Int32) (I : jM) (K : jM → Prop) (X17 : Int32 × Int32 × jM → Prop) : Prop :=
  (((I h0 0) ≤ v4 → K I) ∧ (¬ (I h0 0) ≤ v4 → MD_byLeast_32 h0 v1 v2 v3 v4 (0 : Int32) (0 : Int32) I K X17))
def MD_byLeast_17 (h0 : Nat) (v1 : Int32) (v2 : Int32) (v3 : Int32) (v4 : Int32) (I : jM) (K : jM → Prop) : Prop :=
  lp (fun (X17 : Int32 × Int32 × jM → Prop) (s : Int32 × Int32 × jM) => MD_byLeast_17b h0 v1 s.1 v3 s.2.1 s.2.2 K X17) (v2, v4, I)
set_option maxRecDepth 100000 in
set_option maxHeartbeats 4000000 in
theorem kb_MD_byLeast_17 {Z : jZ} {E : jE} (C : jC Z E prog_14_method_24_code 8 "OutOrderModel" 3 79) (hr : (jZh Z).sig.returnType = none) (hE : E.2.2.2 = jLM)  (h0 : Nat) (v1 : Int32) (v2 : Int32) (v3 : Int32) (v4 : Int32) (I : jM) (g_h0 : jOB E 11 h0) {K : jM → Prop} {X17 : Int32 × Int32 × jM → Prop} (hX17 : ∀ s : Int32 × Int32 × jM, X17 s → jJ Z E 8 (jQv Z E K) 17 [(0, .ref (E.2.2.1 h0)), (1, .int v1), (2, .int s.1), (3, .int v3), (4, .int s.2.1)] [] s.2.2) (h : MD_byLeast_17b h0 v1 v2 v3 v4 I K X17) : jJ Z E 8 (jQv Z E K) 17 [(0, .ref (E.2.2.1 h0)), (1, .int v1), (2, .int v2), (3, .int v3), (4, .int v4)] [] I := by
  unfold MD_byLeast_17b at h
  refine j_iload C d_MD_byLeast_17 4 rfl ?_
  refine j_aload_n C d_MD_byLeast_19 rfl 0 rfl ?_
  refine fg_MD_7 C g_h0 d_MD_byLeast_20 ?_
  refine j_icmp_ge C d_MD_byLeast_23 (tgt := 148) (by decide) (fun c23 => ?_) (fun c23 => ?_)
  · have h := h.1 c23
    exact j_vret C hr d_MD_byLeast_148 h
  · have h := h.2 c23
    refine j_iconst C d_MD_byLeast_26 ic_0 ?_
    refine j_istore C d_MD_byLeast_27 (by decide) (lv' := [(5, .int (0 : Int32)), (0, .ref (E.2.2.1 h0)), (1, .int v1), (2, .int v2), (3, .int v3), (4, .int v4)]) rfl ?_
    refine j_iconst C d_MD_byLeast_29 ic_0 ?_
    refine j_istore C d_MD_byLeast_30 (by decide) (lv' := [(6, .int (0 : Int32)), (5, .int (0 : Int32)), (0, .ref (E.2.2.1 h0)), (1, .int v1), (2, .int v2), (3, .int v3), (4, .int v4)]) rfl ?_
    refine j_lv [2, 3, 4, 5, 6, 1, 0] rfl ?_
    exact k_MD_byLeast_32 C hr hE h0 v1 v2 v3 v4 (0 : Int32) (0 : Int32) I g_h0 hX17 h
theorem k_MD_byLeast_17 {Z : jZ} {E : jE} (C : jC Z E prog_14_method_24_code 8 "OutOrderModel" 3 79) (hr : (jZh Z).sig.returnType = none) (hE : E.2.2.2 = jLM)  (h0 : Nat) (v1 : Int32) (v2 : Int32) (v3 : Int32) (v4 : Int32) (I : jM) (g_h0 : jOB E 11 h0) {K : jM → Prop} (h : MD_byLeast_17 h0 v1 v2 v3 v4 I K) : jJ Z E 8 (jQv Z E K) 17 [(0, .ref (E.2.2.1 h0)), (1, .int v1), (2, .int v2), (3, .int v3), (4, .int v4)] [] I := by
  unfold MD_byLeast_17 at h
  exact h (fun s => jJ Z E 8 (jQv Z E K) 17 [(0, .ref (E.2.2.1 h0)), (1, .int v1), (2, .int s.1), (3, .int v3), (4, .int s.2.1)] [] s.2.2) (fun s hs => kb_MD_byLeast_17 C hr hE h0 v1 s.1 v3 s.2.1 s.2.2 g_h0 (fun s2 h2 => h2) hs)
/-- OutOrderModel.byLeast(Z)V -/
def MD_byLeast (h0 : Nat) (v1 : Int32) (I : jM) (K : jM → Prop) : Prop :=
  MD_findLeast h0 v1 I (fun I_2 => (vp_in (0 : Int32) 4096 ∧ (∀ v3_3 : Int32, v3_3 = (I_2 (jr h0 12) (0 : Int32).toNatClampNeg) → MD_byLeast_17 h0 v1 (0 : Int32) v3_3 (0 : Int32) I_2 K)))
set_option maxRecDepth 100000 in
set_option maxHeartbeats 4000000 in
theorem s_MD_byLeast {l : Launch} {E : jE} (ok : jOK E) (hE : E.2.2.2 = jLM) {h0 : Nat} {v1 : Int32} (g_h0 : jOB E 11 h0) {I : jM} {K : jM → Prop} (h : MD_byLeast h0 v1 I K) : jSv l E ⟨"OutOrderModel", "byLeast", "(Z)V"⟩ prog_14_method_24_code 8 none 3 79 [.ref (E.2.2.1 h0), .int v1] I K := by
  refine jS_ofF (own := "OutOrderModel") (by decide +kernel) rfl ok (Nat.le_of_ble_eq_true rfl) (fun Z _ C hr => ?_)
  show jJ Z E 8 (jQv Z E K) 0 [(0, .ref (E.2.2.1 h0)), (1, .int v1)] [] I
  unfold MD_byLeast at h
  refine j_aload_n C d_MD_byLeast_0 rfl 0 rfl ?_
  refine j_iload_n C d_MD_byLeast_1 rfl 1 rfl ?_
  refine j_callVv (As := [.int v1]) C jcl_MD cw_MD_125 w_881 ws_33 g_h0 rfl rfl (by decide) (by decide) (Nat.le_of_ble_eq_true rfl) d_MD_byLeast_2 (s_MD_findLeast C.ok hE g_h0 h) (fun I_2 h => ?_)
  refine j_iconst C d_MD_byLeast_5 ic_0 ?_
  refine j_istore_n C d_MD_byLeast_6 rfl (by decide) (lv' := [(2, .int (0 : Int32)), (0, .ref (E.2.2.1 h0)), (1, .int v1)]) rfl ?_
  refine j_aload_n C d_MD_byLeast_7 rfl 1 rfl ?_
  refine fg_MD_45 C g_h0 d_MD_byLeast_8 ?_
  refine j_iconst C d_MD_byLeast_11 ic_0 ?_
  obtain ⟨hi, h⟩ := h
  refine j_iaload C (sh_MD_12 hE g_h0) hi d_MD_byLeast_12 ?_
  refine j_topi (fun v3_3 ev3_3 => ?_)
  have h := h v3_3 ev3_3
  refine j_istore_n C d_MD_byLeast_13 rfl (by decide) (lv' := [(3, .int v3_3), (2, .int (0 : Int32)), (0, .ref (E.2.2.1 h0)), (1, .int v1)]) rfl ?_
  refine j_iconst C d_MD_byLeast_14 ic_0 ?_
  refine j_istore C d_MD_byLeast_15 (by decide) (lv' := [(4, .int (0 : Int32)), (3, .int v3_3), (2, .int (0 : Int32)), (0, .ref (E.2.2.1 h0)), (1, .int v1)]) rfl ?_
  refine j_lv [3, 4, 2, 1, 0] rfl ?_
  exact k_MD_byLeast_17 C hr hE h0 v1 (0 : Int32) v3_3 (0 : Int32) I_2 g_h0 h
theorem d_MD_byNumbers_0 : decode prog_14_method_17_code 0 = .ok (.iconst 0, 1) := by decide +kernel
theorem d_MD_byNumbers_1 : decode prog_14_method_17_code 1 = .ok (.istore_n 1, 1) := by decide +kernel
theorem d_MD_byNumbers_2 : decode prog_14_method_17_code 2 = .ok (.iconst 0, 1) := by decide +kernel
theorem d_MD_byNumbers_3 : decode prog_14_method_17_code 3 = .ok (.istore_n 2, 1) := by decide +kernel
theorem d_MD_byNumbers_4 : decode prog_14_method_17_code 4 = .ok (.iload_n 2, 1) := by decide +kernel
theorem d_MD_byNumbers_5 : decode prog_14_method_17_code 5 = .ok (.iconst 2, 1) := by decide +kernel
theorem d_MD_byNumbers_6 : decode prog_14_method_17_code 6 = .ok (.if_icmp .ge 54, 3) := by decide +kernel
theorem d_MD_byNumbers_9 : decode prog_14_method_17_code 9 = .ok (.iconst 0, 1) := by decide +kernel
theorem d_MD_byNumbers_10 : decode prog_14_method_17_code 10 = .ok (.istore_n 3, 1) := by decide +kernel
theorem d_MD_byNumbers_11 : decode prog_14_method_17_code 11 = .ok (.iload_n 3, 1) := by decide +kernel
theorem d_MD_byNumbers_12 : decode prog_14_method_17_code 12 = .ok (.aload_n 0, 1) := by decide +kernel
theorem d_MD_byNumbers_13 : decode prog_14_method_17_code 13 = .ok (.getfield 7, 3) := by decide +kernel
theorem d_MD_byNumbers_16 : decode prog_14_method_17_code 16 = .ok (.if_icmp .ge 38, 3) := by decide +kernel
theorem d_MD_byNumbers_19 : decode prog_14_method_17_code 19 = .ok (.aload_n 0, 1) := by decide +kernel
theorem d_MD_byNumbers_20 : decode prog_14_method_17_code 20 = .ok (.getfield 20, 3) := by decide +kernel
theorem d_MD_byNumbers_23 : decode prog_14_method_17_code 23 = .ok (.iload_n 3, 1) := by decide +kernel
theorem d_MD_byNumbers_24 : decode prog_14_method_17_code 24 = .ok (.baload, 1) := by decide +kernel
theorem d_MD_byNumbers_25 : decode prog_14_method_17_code 25 = .ok (.iload_n 2, 1) := by decide +kernel
theorem d_MD_byNumbers_26 : decode prog_14_method_17_code 26 = .ok (.iconst 1, 1) := by decide +kernel
theorem d_MD_byNumbers_27 : decode prog_14_method_17_code 27 = .ok (.if_icmp .ne 7, 3) := by decide +kernel
theorem d_MD_byNumbers_30 : decode prog_14_method_17_code 30 = .ok (.iconst 1, 1) := by decide +kernel
theorem d_MD_byNumbers_31 : decode prog_14_method_17_code 31 = .ok (.goto 4, 3) := by decide +kernel
theorem d_MD_byNumbers_34 : decode prog_14_method_17_code 34 = .ok (.iconst 0, 1) := by decide +kernel
theorem d_MD_byNumbers_35 : decode prog_14_method_17_code 35 = .ok (.if_icmp .ne 13, 3) := by decide +kernel
theorem d_MD_byNumbers_38 : decode prog_14_method_17_code 38 = .ok (.aload_n 0, 1) := by decide +kernel
theorem d_MD_byNumbers_39 : decode prog_14_method_17_code 39 = .ok (.getfield 24, 3) := by decide +kernel
theorem d_MD_byNumbers_42 : decode prog_14_method_17_code 42 = .ok (.iload_n 1, 1) := by decide +kernel
theorem d_MD_byNumbers_43 : decode prog_14_method_17_code 43 = .ok (.iload_n 3, 1) := by decide +kernel
theorem d_MD_byNumbers_44 : decode prog_14_method_17_code 44 = .ok (.iastore, 1) := by decide +kernel
theorem d_MD_byNumbers_45 : decode prog_14_method_17_code 45 = .ok (.iinc 1 1, 3) := by decide +kernel
theorem d_MD_byNumbers_48 : decode prog_14_method_17_code 48 = .ok (.iinc 3 1, 3) := by decide +kernel
theorem d_MD_byNumbers_51 : decode prog_14_method_17_code 51 = .ok (.goto (-40), 3) := by decide +kernel
theorem d_MD_byNumbers_54 : decode prog_14_method_17_code 54 = .ok (.iinc 2 1, 3) := by decide +kernel
theorem d_MD_byNumbers_57 : decode prog_14_method_17_code 57 = .ok (.goto (-53), 3) := by decide +kernel
theorem d_MD_byNumbers_60 : decode prog_14_method_17_code 60 = .ok (.return_, 1) := by decide +kernel
def MD_byNumbers_35 (h0 : Nat) (v1 : Int32) (v2 : Int32) (v3 : Int32) (s0 : Int32) (s1 : Int32) (I : jM) (K : jM → Prop) (X4 : Int32 × Int32 × jM → Prop) (X11 : Int32 × Int32 × jM → Prop) : Prop :=
  ((¬ s0 = s1 → X11 (v1, (v3 + 1), I)) ∧ (s0 = s1 → (vp_in v1 24 ∧ (∀ I_1 : jM, I_1 = jwr I (jr h0 4) v1.toNatClampNeg v3 → X11 ((v1 + 1), (v3 + 1), I_1)))))
set_option maxRecDepth 100000 in
set_option maxHeartbeats 4000000 in
theorem k_MD_byNumbers_35 {Z : jZ} {E : jE} (C : jC Z E prog_14_method_17_code 4 "OutOrderModel" 0 0) (hr : (jZh Z).sig.returnType = none) (hE : E.2.2.2 = jLM)  (h0 : Nat) (v1 : Int32) (v2 : Int32) (v3 : Int32) (s0 : Int32) (s1 : Int32) (I : jM) (g_h0 : jOB E 11 h0) {K : jM → Prop} {X4 : Int32 × Int32 × jM → Prop} {X11 : Int32 × Int32 × jM → Prop} (hX4 : ∀ s : Int32 × Int32 × jM, X4 s → jJ Z E 4 (jQv Z E K) 4 [(0, .ref (E.2.2.1 h0)), (1, .int s.1), (2, .int s.2.1)] [] s.2.2) (hX11 : ∀ s : Int32 × Int32 × jM, X11 s → jJ Z E 4 (jQv Z E K) 11 [(0, .ref (E.2.2.1 h0)), (1, .int s.1), (2, .int v2), (3, .int s.2.1)] [] s.2.2) (h : MD_byNumbers_35 h0 v1 v2 v3 s0 s1 I K X4 X11) : jJ Z E 4 (jQv Z E K) 35 [(0, .ref (E.2.2.1 h0)), (1, .int v1), (2, .int v2), (3, .int v3)] [.int s1, .int s0] I := by
  unfold MD_byNumbers_35 at h
  refine j_icmp_ne C d_MD_byNumbers_35 (tgt := 48) (by decide) (fun c35 => ?_) (fun c35 => ?_)
  · have h := h.1 c35
    refine j_iinc C d_MD_byNumbers_48 3 rfl (v := (v3 + 1)) rfl (by decide) (lv' := [(3, .int (v3 + 1)), (0, .ref (E.2.2.1 h0)), (1, .int v1), (2, .int v2)]) rfl ?_
    refine j_goto C d_MD_byNumbers_51 (tgt := 11) (by decide) ?_
    refine j_lv [1, 2, 3, 0] rfl ?_
    exact hX11 (v1, (v3 + 1), I) h
  · have h := h.2 c35
    refine j_aload_n C d_MD_byNumbers_38 rfl 0 rfl ?_
    refine fg_MD_24 C g_h0 d_MD_byNumbers_39 ?_
    refine j_iload_n C d_MD_byNumbers_42 rfl 1 rfl ?_
    refine j_iload_n C d_MD_byNumbers_43 rfl 3 rfl ?_
    obtain ⟨hi, h⟩ := h
    refine j_iastore C (sh_MD_4 hE g_h0) hi d_MD_byNumbers_44 ?_
    have h := h _ rfl
    generalize eI_1 : (jwr I (jr h0 4) v1.toNatClampNeg v3 : jM) = I_1 at h ⊢
    refine j_iinc C d_MD_byNumbers_45 1 rfl (v := (v1 + 1)) rfl (by decide) (lv' := [(1, .int (v1 + 1)), (0, .ref (E.2.2.1 h0)), (2, .int v2), (3, .int v3)]) rfl ?_
    refine j_iinc C d_MD_byNumbers_48 3 rfl (v := (v3 + 1)) rfl (by decide) (lv' := [(3, .int (v3 + 1)), (1, .int (v1 + 1)), (0, .ref (E.2.2.1 h0)), (2, .int v2)]) rfl ?_
    refine j_goto C d_MD_byNumbers_51 (tgt := 11) (by decide) ?_
    refine j_lv [2, 1, 3, 0] rfl ?_
    exact hX11 ((v1 + 1), (v3 + 1), I_1) h
def MD_byNumbers_11b (h0 : Nat) (v1 : Int32) (v2 : Int32) (v3 : Int32) (I : jM) (K : jM → Prop) (X4 : Int32 × Int32 × jM → Prop) (X11 : Int32 × Int32 × jM → Prop) : Prop :=
  (((I h0 0) ≤ v3 → X4 (v1, (v2 + 1), I)) ∧ (¬ (I h0 0) ≤ v3 → (vp_in v3 24 ∧ ((¬ v2 = (1 : Int32) → MD_byNumbers_35 h0 v1 v2 v3 (I (jr h0 3) v3.toNatClampNeg) (0 : Int32) I K X4 X11) ∧ (v2 = (1 : Int32) → MD_byNumbers_35 h0 v1 v2 v3 (I (jr h0 3) v3.toNatClampNeg) (1 : Int32) I K X4 X11)))))
def MD_byNumbers_11 (h0 : Nat) (v1 : Int32) (v2 : Int32) (v3 : Int32) (I : jM) (K : jM → Prop) (X4 : Int32 × Int32 × jM → Prop) : Prop :=
  lp (fun (X11 : Int32 × Int32 × jM → Prop) (s : Int32 × Int32 × jM) => MD_byNumbers_11b h0 s.1 v2 s.2.1 s.2.2 K X4 X11) (v1, v3, I)
set_option maxRecDepth 100000 in
set_option maxHeartbeats 4000000 in
theorem kb_MD_byNumbers_11 {Z : jZ} {E : jE} (C : jC Z E prog_14_method_17_code 4 "OutOrderModel" 0 0) (hr : (jZh Z).sig.returnType = none) (hE : E.2.2.2 = jLM)  (h0 : Nat) (v1 : Int32) (v2 : Int32) (v3 : Int32) (I : jM) (g_h0 : jOB E 11 h0) {K : jM → Prop} {X4 : Int32 × Int32 × jM → Prop} (hX4 : ∀ s : Int32 × Int32 × jM, X4 s → jJ Z E 4 (jQv Z E K) 4 [(0, .ref (E.2.2.1 h0)), (1, .int s.1), (2, .int s.2.1)] [] s.2.2) {X11 : Int32 × Int32 × jM → Prop} (hX11 : ∀ s : Int32 × Int32 × jM, X11 s → jJ Z E 4 (jQv Z E K) 11 [(0, .ref (E.2.2.1 h0)), (1, .int s.1), (2, .int v2), (3, .int s.2.1)] [] s.2.2) (h : MD_byNumbers_11b h0 v1 v2 v3 I K X4 X11) : jJ Z E 4 (jQv Z E K) 11 [(0, .ref (E.2.2.1 h0)), (1, .int v1), (2, .int v2), (3, .int v3)] [] I := by
  unfold MD_byNumbers_11b at h
  refine j_iload_n C d_MD_byNumbers_11 rfl 3 rfl ?_
  refine j_aload_n C d_MD_byNumbers_12 rfl 0 rfl ?_
  refine fg_MD_7 C g_h0 d_MD_byNumbers_13 ?_
  refine j_icmp_ge C d_MD_byNumbers_16 (tgt := 54) (by decide) (fun c16 => ?_) (fun c16 => ?_)
  · have h := h.1 c16
    refine j_iinc C d_MD_byNumbers_54 2 rfl (v := (v2 + 1)) rfl (by decide) (lv' := [(2, .int (v2 + 1)), (0, .ref (E.2.2.1 h0)), (1, .int v1), (3, .int v3)]) rfl ?_
    refine j_goto C d_MD_byNumbers_57 (tgt := 4) (by decide) ?_
    refine j_lv [1, 2, 0] rfl ?_
    exact hX4 (v1, (v2 + 1), I) h
  · have h := h.2 c16
    refine j_aload_n C d_MD_byNumbers_19 rfl 0 rfl ?_
    refine fg_MD_20 C g_h0 d_MD_byNumbers_20 ?_
    refine j_iload_n C d_MD_byNumbers_23 rfl 3 rfl ?_
    obtain ⟨hi, h⟩ := h
    refine j_zaload C (sh_MD_3 hE g_h0) hi d_MD_byNumbers_24 ?_
    refine j_iload_n C d_MD_byNumbers_25 rfl 2 rfl ?_
    refine j_iconst C d_MD_byNumbers_26 ic_1 ?_
    refine j_icmp_ne C d_MD_byNumbers_27 (tgt := 34) (by decide) (fun c27 => ?_) (fun c27 => ?_)
    · have h := h.1 c27
      refine j_iconst C d_MD_byNumbers_34 ic_0 ?_
      refine j_lv [0, 1, 2, 3] rfl ?_
      exact k_MD_byNumbers_35 C hr hE h0 v1 v2 v3 (I (jr h0 3) v3.toNatClampNeg) (0 : Int32) I g_h0 hX4 hX11 h
    · have h := h.2 c27
      refine j_iconst C d_MD_byNumbers_30 ic_1 ?_
      refine j_goto C d_MD_byNumbers_31 (tgt := 35) (by decide) ?_
      refine j_lv [0, 1, 2, 3] rfl ?_
      exact k_MD_byNumbers_35 C hr hE h0 v1 v2 v3 (I (jr h0 3) v3.toNatClampNeg) (1 : Int32) I g_h0 hX4 hX11 h
theorem k_MD_byNumbers_11 {Z : jZ} {E : jE} (C : jC Z E prog_14_method_17_code 4 "OutOrderModel" 0 0) (hr : (jZh Z).sig.returnType = none) (hE : E.2.2.2 = jLM)  (h0 : Nat) (v1 : Int32) (v2 : Int32) (v3 : Int32) (I : jM) (g_h0 : jOB E 11 h0) {K : jM → Prop} {X4 : Int32 × Int32 × jM → Prop} (hX4 : ∀ s : Int32 × Int32 × jM, X4 s → jJ Z E 4 (jQv Z E K) 4 [(0, .ref (E.2.2.1 h0)), (1, .int s.1), (2, .int s.2.1)] [] s.2.2) (h : MD_byNumbers_11 h0 v1 v2 v3 I K X4) : jJ Z E 4 (jQv Z E K) 11 [(0, .ref (E.2.2.1 h0)), (1, .int v1), (2, .int v2), (3, .int v3)] [] I := by
  unfold MD_byNumbers_11 at h
  exact h (fun s => jJ Z E 4 (jQv Z E K) 11 [(0, .ref (E.2.2.1 h0)), (1, .int s.1), (2, .int v2), (3, .int s.2.1)] [] s.2.2) (fun s hs => kb_MD_byNumbers_11 C hr hE h0 s.1 v2 s.2.1 s.2.2 g_h0 hX4 (fun s2 h2 => h2) hs)
def MD_byNumbers_4b (h0 : Nat) (v1 : Int32) (v2 : Int32) (I : jM) (K : jM → Prop) (X4 : Int32 × Int32 × jM → Prop) : Prop :=
  (((2 : Int32) ≤ v2 → K I) ∧ (¬ (2 : Int32) ≤ v2 → MD_byNumbers_11 h0 v1 v2 (0 : Int32) I K X4))
def MD_byNumbers_4 (h0 : Nat) (v1 : Int32) (v2 : Int32) (I : jM) (K : jM → Prop) : Prop :=
  lp (fun (X4 : Int32 × Int32 × jM → Prop) (s : Int32 × Int32 × jM) => MD_byNumbers_4b h0 s.1 s.2.1 s.2.2 K X4) (v1, v2, I)
set_option maxRecDepth 100000 in
set_option maxHeartbeats 4000000 in
theorem kb_MD_byNumbers_4 {Z : jZ} {E : jE} (C : jC Z E prog_14_method_17_code 4 "OutOrderModel" 0 0) (hr : (jZh Z).sig.returnType = none) (hE : E.2.2.2 = jLM)  (h0 : Nat) (v1 : Int32) (v2 : Int32) (I : jM) (g_h0 : jOB E 11 h0) {K : jM → Prop} {X4 : Int32 × Int32 × jM → Prop} (hX4 : ∀ s : Int32 × Int32 × jM, X4 s → jJ Z E 4 (jQv Z E K) 4 [(0, .ref (E.2.2.1 h0)), (1, .int s.1), (2, .int s.2.1)] [] s.2.2) (h : MD_byNumbers_4b h0 v1 v2 I K X4) : jJ Z E 4 (jQv Z E K) 4 [(0, .ref (E.2.2.1 h0)), (1, .int v1), (2, .int v2)] [] I := by
  unfold MD_byNumbers_4b at h
  refine j_iload_n C d_MD_byNumbers_4 rfl 2 rfl ?_
  refine j_iconst C d_MD_byNumbers_5 ic_2 ?_
  refine j_icmp_ge C d_MD_byNumbers_6 (tgt := 60) (by decide) (fun c6 => ?_) (fun c6 => ?_)
  · have h := h.1 c6
    exact j_vret C hr d_MD_byNumbers_60 h
  · have h := h.2 c6
    refine j_iconst C d_MD_byNumbers_9 ic_0 ?_
    refine j_istore_n C d_MD_byNumbers_10 rfl (by decide) (lv' := [(3, .int (0 : Int32)), (0, .ref (E.2.2.1 h0)), (1, .int v1), (2, .int v2)]) rfl ?_
    refine j_lv [1, 2, 3, 0] rfl ?_
    exact k_MD_byNumbers_11 C hr hE h0 v1 v2 (0 : Int32) I g_h0 hX4 h
theorem k_MD_byNumbers_4 {Z : jZ} {E : jE} (C : jC Z E prog_14_method_17_code 4 "OutOrderModel" 0 0) (hr : (jZh Z).sig.returnType = none) (hE : E.2.2.2 = jLM)  (h0 : Nat) (v1 : Int32) (v2 : Int32) (I : jM) (g_h0 : jOB E 11 h0) {K : jM → Prop} (h : MD_byNumbers_4 h0 v1 v2 I K) : jJ Z E 4 (jQv Z E K) 4 [(0, .ref (E.2.2.1 h0)), (1, .int v1), (2, .int v2)] [] I := by
  unfold MD_byNumbers_4 at h
  exact h (fun s => jJ Z E 4 (jQv Z E K) 4 [(0, .ref (E.2.2.1 h0)), (1, .int s.1), (2, .int s.2.1)] [] s.2.2) (fun s hs => kb_MD_byNumbers_4 C hr hE h0 s.1 s.2.1 s.2.2 g_h0 (fun s2 h2 => h2) hs)
/-- OutOrderModel.byNumbers()V -/
def MD_byNumbers (h0 : Nat) (I : jM) (K : jM → Prop) : Prop :=
  MD_byNumbers_4 h0 (0 : Int32) (0 : Int32) I K
set_option maxRecDepth 100000 in
set_option maxHeartbeats 4000000 in
theorem s_MD_byNumbers {l : Launch} {E : jE} (ok : jOK E) (hE : E.2.2.2 = jLM) {h0 : Nat} (g_h0 : jOB E 11 h0) {I : jM} {K : jM → Prop} (h : MD_byNumbers h0 I K) : jSv l E ⟨"OutOrderModel", "byNumbers", "()V"⟩ prog_14_method_17_code 4 none 0 0 [.ref (E.2.2.1 h0)] I K := by
  refine jS_ofF (own := "OutOrderModel") (by decide +kernel) rfl ok (Nat.le_of_ble_eq_true rfl) (fun Z _ C hr => ?_)
  show jJ Z E 4 (jQv Z E K) 0 [(0, .ref (E.2.2.1 h0))] [] I
  unfold MD_byNumbers at h
  refine j_iconst C d_MD_byNumbers_0 ic_0 ?_
  refine j_istore_n C d_MD_byNumbers_1 rfl (by decide) (lv' := [(1, .int (0 : Int32)), (0, .ref (E.2.2.1 h0))]) rfl ?_
  refine j_iconst C d_MD_byNumbers_2 ic_0 ?_
  refine j_istore_n C d_MD_byNumbers_3 rfl (by decide) (lv' := [(2, .int (0 : Int32)), (1, .int (0 : Int32)), (0, .ref (E.2.2.1 h0))]) rfl ?_
  refine j_lv [2, 1, 0] rfl ?_
  exact k_MD_byNumbers_4 C hr hE h0 (0 : Int32) (0 : Int32) I g_h0 h
theorem d_MD_bySearch_0 : decode prog_14_method_19_code 0 = .ok (.aload_n 0, 1) := by decide +kernel
theorem d_MD_bySearch_1 : decode prog_14_method_19_code 1 = .ok (.invokevirtual 100, 3) := by decide +kernel
theorem d_MD_bySearch_4 : decode prog_14_method_19_code 4 = .ok (.iconst 0, 1) := by decide +kernel
theorem d_MD_bySearch_5 : decode prog_14_method_19_code 5 = .ok (.istore_n 1, 1) := by decide +kernel
theorem d_MD_bySearch_6 : decode prog_14_method_19_code 6 = .ok (.aload_n 0, 1) := by decide +kernel
theorem d_MD_bySearch_7 : decode prog_14_method_19_code 7 = .ok (.getfield 7, 3) := by decide +kernel
theorem d_MD_bySearch_10 : decode prog_14_method_19_code 10 = .ok (.iconst 1, 1) := by decide +kernel
theorem d_MD_bySearch_11 : decode prog_14_method_19_code 11 = .ok (.isub, 1) := by decide +kernel
theorem d_MD_bySearch_12 : decode prog_14_method_19_code 12 = .ok (.istore_n 2, 1) := by decide +kernel
theorem d_MD_bySearch_13 : decode prog_14_method_19_code 13 = .ok (.iload_n 2, 1) := by decide +kernel
theorem d_MD_bySearch_14 : decode prog_14_method_19_code 14 = .ok (.ifCond .lt 103, 3) := by decide +kernel
theorem d_MD_bySearch_17 : decode prog_14_method_19_code 17 = .ok (.bipush (-9), 2) := by decide +kernel
theorem d_MD_bySearch_19 : decode prog_14_method_19_code 19 = .ok (.istore_n 3, 1) := by decide +kernel
theorem d_MD_bySearch_20 : decode prog_14_method_19_code 20 = .ok (.iconst 0, 1) := by decide +kernel
theorem d_MD_bySearch_21 : decode prog_14_method_19_code 21 = .ok (.istore 4, 2) := by decide +kernel
theorem d_MD_bySearch_23 : decode prog_14_method_19_code 23 = .ok (.iload 4, 2) := by decide +kernel
theorem d_MD_bySearch_25 : decode prog_14_method_19_code 25 = .ok (.aload_n 0, 1) := by decide +kernel
theorem d_MD_bySearch_26 : decode prog_14_method_19_code 26 = .ok (.getfield 7, 3) := by decide +kernel
theorem d_MD_bySearch_29 : decode prog_14_method_19_code 29 = .ok (.if_icmp .ge 69, 3) := by decide +kernel
theorem d_MD_bySearch_32 : decode prog_14_method_19_code 32 = .ok (.iload_n 1, 1) := by decide +kernel
theorem d_MD_bySearch_33 : decode prog_14_method_19_code 33 = .ok (.iload 4, 2) := by decide +kernel
theorem d_MD_bySearch_35 : decode prog_14_method_19_code 35 = .ok (.ishr, 1) := by decide +kernel
theorem d_MD_bySearch_36 : decode prog_14_method_19_code 36 = .ok (.iconst 1, 1) := by decide +kernel
theorem d_MD_bySearch_37 : decode prog_14_method_19_code 37 = .ok (.iand, 1) := by decide +kernel
theorem d_MD_bySearch_38 : decode prog_14_method_19_code 38 = .ok (.ifCond .ne 7, 3) := by decide +kernel
theorem d_MD_bySearch_41 : decode prog_14_method_19_code 41 = .ok (.iconst 1, 1) := by decide +kernel
theorem d_MD_bySearch_42 : decode prog_14_method_19_code 42 = .ok (.goto 4, 3) := by decide +kernel
theorem d_MD_bySearch_45 : decode prog_14_method_19_code 45 = .ok (.iconst 0, 1) := by decide +kernel
theorem d_MD_bySearch_46 : decode prog_14_method_19_code 46 = .ok (.istore 5, 2) := by decide +kernel
theorem d_MD_bySearch_48 : decode prog_14_method_19_code 48 = .ok (.iload 5, 2) := by decide +kernel
theorem d_MD_bySearch_50 : decode prog_14_method_19_code 50 = .ok (.ifCond .eq 40, 3) := by decide +kernel
theorem d_MD_bySearch_53 : decode prog_14_method_19_code 53 = .ok (.iload_n 3, 1) := by decide +kernel
theorem d_MD_bySearch_54 : decode prog_14_method_19_code 54 = .ok (.bipush (-9), 2) := by decide +kernel
theorem d_MD_bySearch_56 : decode prog_14_method_19_code 56 = .ok (.if_icmp .eq 29, 3) := by decide +kernel
theorem d_MD_bySearch_59 : decode prog_14_method_19_code 59 = .ok (.aload_n 0, 1) := by decide +kernel
theorem d_MD_bySearch_60 : decode prog_14_method_19_code 60 = .ok (.getfield 33, 3) := by decide +kernel
theorem d_MD_bySearch_63 : decode prog_14_method_19_code 63 = .ok (.iload 4, 2) := by decide +kernel
theorem d_MD_bySearch_65 : decode prog_14_method_19_code 65 = .ok (.iaload, 1) := by decide +kernel
theorem d_MD_bySearch_66 : decode prog_14_method_19_code 66 = .ok (.iload_n 1, 1) := by decide +kernel
theorem d_MD_bySearch_67 : decode prog_14_method_19_code 67 = .ok (.iand, 1) := by decide +kernel
theorem d_MD_bySearch_68 : decode prog_14_method_19_code 68 = .ok (.invokestatic 98, 3) := by decide +kernel
theorem d_MD_bySearch_71 : decode prog_14_method_19_code 71 = .ok (.aload_n 0, 1) := by decide +kernel
theorem d_MD_bySearch_72 : decode prog_14_method_19_code 72 = .ok (.getfield 33, 3) := by decide +kernel
theorem d_MD_bySearch_75 : decode prog_14_method_19_code 75 = .ok (.iload_n 3, 1) := by decide +kernel
theorem d_MD_bySearch_76 : decode prog_14_method_19_code 76 = .ok (.iaload, 1) := by decide +kernel
theorem d_MD_bySearch_77 : decode prog_14_method_19_code 77 = .ok (.iload_n 1, 1) := by decide +kernel
theorem d_MD_bySearch_78 : decode prog_14_method_19_code 78 = .ok (.iand, 1) := by decide +kernel
theorem d_MD_bySearch_79 : decode prog_14_method_19_code 79 = .ok (.invokestatic 98, 3) := by decide +kernel
theorem d_MD_bySearch_82 : decode prog_14_method_19_code 82 = .ok (.if_icmp .le 8, 3) := by decide +kernel
theorem d_MD_bySearch_85 : decode prog_14_method_19_code 85 = .ok (.iload 4, 2) := by decide +kernel
theorem d_MD_bySearch_87 : decode prog_14_method_19_code 87 = .ok (.goto 4, 3) := by decide +kernel
theorem d_MD_bySearch_90 : decode prog_14_method_19_code 90 = .ok (.iload_n 3, 1) := by decide +kernel
theorem d_MD_bySearch_91 : decode prog_14_method_19_code 91 = .ok (.istore_n 3, 1) := by decide +kernel
theorem d_MD_bySearch_92 : decode prog_14_method_19_code 92 = .ok (.iinc 4 1, 3) := by decide +kernel
theorem d_MD_bySearch_95 : decode prog_14_method_19_code 95 = .ok (.goto (-72), 3) := by decide +kernel
theorem d_MD_bySearch_98 : decode prog_14_method_19_code 98 = .ok (.aload_n 0, 1) := by decide +kernel
theorem d_MD_bySearch_99 : decode prog_14_method_19_code 99 = .ok (.getfield 24, 3) := by decide +kernel
theorem d_MD_bySearch_102 : decode prog_14_method_19_code 102 = .ok (.iload_n 2, 1) := by decide +kernel
theorem d_MD_bySearch_103 : decode prog_14_method_19_code 103 = .ok (.iload_n 3, 1) := by decide +kernel
theorem d_MD_bySearch_104 : decode prog_14_method_19_code 104 = .ok (.iastore, 1) := by decide +kernel
theorem d_MD_bySearch_105 : decode prog_14_method_19_code 105 = .ok (.iload_n 1, 1) := by decide +kernel
theorem d_MD_bySearch_106 : decode prog_14_method_19_code 106 = .ok (.iconst 1, 1) := by decide +kernel
theorem d_MD_bySearch_107 : decode prog_14_method_19_code 107 = .ok (.iload_n 3, 1) := by decide +kernel
theorem d_MD_bySearch_108 : decode prog_14_method_19_code 108 = .ok (.ishl, 1) := by decide +kernel
theorem d_MD_bySearch_109 : decode prog_14_method_19_code 109 = .ok (.ior, 1) := by decide +kernel
theorem d_MD_bySearch_110 : decode prog_14_method_19_code 110 = .ok (.istore_n 1, 1) := by decide +kernel
theorem d_MD_bySearch_111 : decode prog_14_method_19_code 111 = .ok (.iinc 2 (-1), 3) := by decide +kernel
theorem d_MD_bySearch_114 : decode prog_14_method_19_code 114 = .ok (.goto (-101), 3) := by decide +kernel
theorem d_MD_bySearch_117 : decode prog_14_method_19_code 117 = .ok (.return_, 1) := by decide +kernel
def MD_bySearch_46 (h0 : Nat) (v1 : Int32) (v2 : Int32) (v3 : Int32) (v4 : Int32) (s0 : Int32) (I : jM) (K : jM → Prop) (X13 : Int32 × Int32 × jM → Prop) (X23 : Int32 × Int32 → Prop) : Prop :=
  ((s0 = 0 → X23 (v3, (v4 + 1))) ∧ (¬ s0 = 0 → ((v3 = (-9 : Int32) → X23 (v4, (v4 + 1))) ∧ (¬ v3 = (-9 : Int32) → (vp_in v4 24 ∧ MD_ones ((I (jr h0 7) v4.toNatClampNeg) &&& v1) I (fun r_1 => (vp_in v3 24 ∧ MD_ones ((I (jr h0 7) v3.toNatClampNeg) &&& v1) I (fun r_2 => ((r_1 ≤ r_2 → X23 (v3, (v4 + 1))) ∧ (¬ r_1 ≤ r_2 → X23 (v4, (v4 + 1))))))))))))
set_option maxRecDepth 100000 in
set_option maxHeartbeats 4000000 in
theorem k_MD_bySearch_46 {Z : jZ} {E : jE} (C : jC Z E prog_14_method_19_code 6 "OutOrderModel" 1 22) (hr : (jZh Z).sig.returnType = none) (hE : E.2.2.2 = jLM)  (h0 : Nat) (v1 : Int32) (v2 : Int32) (v3 : Int32) (v4 : Int32) (s0 : Int32) (I : jM) (g_h0 : jOB E 11 h0) {K : jM → Prop} {X13 : Int32 × Int32 × jM → Prop} {X23 : Int32 × Int32 → Prop} (hX13 : ∀ s : Int32 × Int32 × jM, X13 s → jJ Z E 6 (jQv Z E K) 13 [(0, .ref (E.2.2.1 h0)), (1, .int s.1), (2, .int s.2.1)] [] s.2.2) (hX23 : ∀ s : Int32 × Int32, X23 s → jJ Z E 6 (jQv Z E K) 23 [(0, .ref (E.2.2.1 h0)), (1, .int v1), (2, .int v2), (3, .int s.1), (4, .int s.2)] [] I) (h : MD_bySearch_46 h0 v1 v2 v3 v4 s0 I K X13 X23) : jJ Z E 6 (jQv Z E K) 46 [(0, .ref (E.2.2.1 h0)), (1, .int v1), (2, .int v2), (3, .int v3), (4, .int v4)] [.int s0] I := by
  unfold MD_bySearch_46 at h
  refine j_istore C d_MD_bySearch_46 (by decide) (lv' := [(5, .int s0), (0, .ref (E.2.2.1 h0)), (1, .int v1), (2, .int v2), (3, .int v3), (4, .int v4)]) rfl ?_
  refine j_iload C d_MD_bySearch_48 0 rfl ?_
  refine j_if_eq C d_MD_bySearch_50 (tgt := 90) (by decide) (fun c50 => ?_) (fun c50 => ?_)
  · have h := h.1 c50
    refine j_iload_n C d_MD_bySearch_90 rfl 4 rfl ?_
    refine j_istore_n C d_MD_bySearch_91 rfl (by decide) (lv' := [(3, .int v3), (5, .int s0), (0, .ref (E.2.2.1 h0)), (1, .int v1), (2, .int v2), (4, .int v4)]) rfl ?_
    refine j_iinc C d_MD_bySearch_92 5 rfl (v := (v4 + 1)) rfl (by decide) (lv' := [(4, .int (v4 + 1)), (3, .int v3), (5, .int s0), (0, .ref (E.2.2.1 h0)), (1, .int v1), (2, .int v2)]) rfl ?_
    refine j_goto C d_MD_bySearch_95 (tgt := 23) (by decide) ?_
    refine j_lv [3, 4, 5, 1, 0] rfl ?_
    exact hX23 (v3, (v4 + 1)) h
  · have h := h.2 c50
    refine j_iload_n C d_MD_bySearch_53 rfl 4 rfl ?_
    refine j_bipush C d_MD_bySearch_54 ib_m9 ?_
    refine j_icmp_eq C d_MD_bySearch_56 (tgt := 85) (by decide) (fun c56 => ?_) (fun c56 => ?_)
    · have h := h.1 c56
      refine j_iload C d_MD_bySearch_85 5 rfl ?_
      refine j_goto C d_MD_bySearch_87 (tgt := 91) (by decide) ?_
      refine j_istore_n C d_MD_bySearch_91 rfl (by decide) (lv' := [(3, .int v4), (5, .int s0), (0, .ref (E.2.2.1 h0)), (1, .int v1), (2, .int v2), (4, .int v4)]) rfl ?_
      refine j_iinc C d_MD_bySearch_92 5 rfl (v := (v4 + 1)) rfl (by decide) (lv' := [(4, .int (v4 + 1)), (3, .int v4), (5, .int s0), (0, .ref (E.2.2.1 h0)), (1, .int v1), (2, .int v2)]) rfl ?_
      refine j_goto C d_MD_bySearch_95 (tgt := 23) (by decide) ?_
      refine j_lv [3, 4, 5, 1, 0] rfl ?_
      exact hX23 (v4, (v4 + 1)) h
    · have h := h.2 c56
      refine j_aload_n C d_MD_bySearch_59 rfl 1 rfl ?_
      refine fg_MD_33 C g_h0 d_MD_bySearch_60 ?_
      refine j_iload C d_MD_bySearch_63 5 rfl ?_
      obtain ⟨hi, h⟩ := h
      refine j_iaload C (sh_MD_7 hE g_h0) hi d_MD_bySearch_65 ?_
      refine j_iload_n C d_MD_bySearch_66 rfl 2 rfl ?_
      refine j_iand C d_MD_bySearch_67 ?_
      refine j_callSi (As := [.int ((I (jr h0 7) v4.toNatClampNeg) &&& v1)]) C cw_MD_98 w_866 rfl rfl (by decide) (by decide) (Nat.le_of_ble_eq_true rfl) d_MD_bySearch_68 (s_MD_ones C.ok  h) (fun r_1 I2 h => ?_)
      obtain ⟨rfl, h⟩ := h
      refine j_aload_n C d_MD_bySearch_71 rfl 1 rfl ?_
      refine fg_MD_33 C g_h0 d_MD_bySearch_72 ?_
      refine j_iload_n C d_MD_bySearch_75 rfl 4 rfl ?_
      obtain ⟨hi, h⟩ := h
      refine j_iaload C (sh_MD_7 hE g_h0) hi d_MD_bySearch_76 ?_
      refine j_iload_n C d_MD_bySearch_77 rfl 2 rfl ?_
      refine j_iand C d_MD_bySearch_78 ?_
      refine j_callSi (As := [.int ((I (jr h0 7) v3.toNatClampNeg) &&& v1)]) C cw_MD_98 w_866 rfl rfl (by decide) (by decide) (Nat.le_of_ble_eq_true rfl) d_MD_bySearch_79 (s_MD_ones C.ok  h) (fun r_2 I2 h => ?_)
      obtain ⟨rfl, h⟩ := h
      refine j_icmp_le C d_MD_bySearch_82 (tgt := 90) (by decide) (fun c82 => ?_) (fun c82 => ?_)
      · have h := h.1 c82
        refine j_iload_n C d_MD_bySearch_90 rfl 4 rfl ?_
        refine j_istore_n C d_MD_bySearch_91 rfl (by decide) (lv' := [(3, .int v3), (5, .int s0), (0, .ref (E.2.2.1 h0)), (1, .int v1), (2, .int v2), (4, .int v4)]) rfl ?_
        refine j_iinc C d_MD_bySearch_92 5 rfl (v := (v4 + 1)) rfl (by decide) (lv' := [(4, .int (v4 + 1)), (3, .int v3), (5, .int s0), (0, .ref (E.2.2.1 h0)), (1, .int v1), (2, .int v2)]) rfl ?_
        refine j_goto C d_MD_bySearch_95 (tgt := 23) (by decide) ?_
        refine j_lv [3, 4, 5, 1, 0] rfl ?_
        exact hX23 (v3, (v4 + 1)) h
      · have h := h.2 c82
        refine j_iload C d_MD_bySearch_85 5 rfl ?_
        refine j_goto C d_MD_bySearch_87 (tgt := 91) (by decide) ?_
        refine j_istore_n C d_MD_bySearch_91 rfl (by decide) (lv' := [(3, .int v4), (5, .int s0), (0, .ref (E.2.2.1 h0)), (1, .int v1), (2, .int v2), (4, .int v4)]) rfl ?_
        refine j_iinc C d_MD_bySearch_92 5 rfl (v := (v4 + 1)) rfl (by decide) (lv' := [(4, .int (v4 + 1)), (3, .int v4), (5, .int s0), (0, .ref (E.2.2.1 h0)), (1, .int v1), (2, .int v2)]) rfl ?_
        refine j_goto C d_MD_bySearch_95 (tgt := 23) (by decide) ?_
        refine j_lv [3, 4, 5, 1, 0] rfl ?_
        exact hX23 (v4, (v4 + 1)) h
def MD_bySearch_23b (h0 : Nat) (v1 : Int32) (v2 : Int32) (v3 : Int32) (v4 : Int32) (I : jM) (K : jM → Prop) (X13 : Int32 × Int32 × jM → Prop) (X23 : Int32 × Int32 → Prop) : Prop :=
  (((I h0 0) ≤ v4 → (vp_in v2 24 ∧ (∀ I_1 : jM, I_1 = jwr I (jr h0 4) v2.toNatClampNeg v3 → (∀ v1_2 : Int32, v1_2 = (v1 ||| ((1 : Int32) <<< (v3 &&& 31))) → X13 (v1_2, (v2 + (-1)), I_1))))) ∧ (¬ (I h0 0) ≤ v4 → ((¬ ((v1 >>> (v4 &&& 31)) &&& (1 : Int32)) = 0 → MD_bySearch_46 h0 v1 v2 v3 v4 (0 : Int32) I K X13 X23) ∧ (((v1 >>> (v4 &&& 31)) &&& (1 : Int32)) = 0 → MD_bySearch_46 h0 v1 v2 v3 v4 (1 : Int32) I K X13 X23))))
def MD_bySearch_23 (h0 : Nat) (v1 : Int32) (v2 : Int32) (v3 : Int32) (v4 : Int32) (I : jM) (K : jM → Prop) (X13 : Int32 × Int32 × jM → Prop) : Prop :=
  lp (fun (X23 : Int32 × Int32 → Prop) (s : Int32 × Int32) => MD_bySearch_23b h0 v1 v2 s.1 s.2 I K X13 X23) (v3, v4)
set_option maxRecDepth 100000 in
set_option maxHeartbeats 4000000 in
theorem kb_MD_bySearch_23 {Z : jZ} {E : jE} (C : jC Z E prog_14_method_19_code 6 "OutOrderModel" 1 22) (hr : (jZh Z).sig.returnType = none) (hE : E.2.2.2 = jLM)  (h0 : Nat) (v1 : Int32) (v2 : Int32) (v3 : Int32) (v4 : Int32) (I : jM) (g_h0 : jOB E 11 h0) {K : jM → Prop} {X13 : Int32 × Int32 × jM → Prop} (hX13 : ∀ s : Int32 × Int32 × jM, X13 s → jJ Z E 6 (jQv Z E K) 13 [(0, .ref (E.2.2.1 h0)), (1, .int s.1), (2, .int s.2.1)] [] s.2.2) {X23 : Int32 × Int32 → Prop} (hX23 : ∀ s : Int32 × Int32, X23 s → jJ Z E 6 (jQv Z E K) 23 [(0, .ref (E.2.2.1 h0)), (1, .int v1), (2, .int v2), (3, .int s.1), (4, .int s.2)] [] I) (h : MD_bySearch_23b h0 v1 v2 v3 v4 I K X13 X23) : jJ Z E 6 (jQv Z E K) 23 [(0, .ref (E.2.2.1 h0)), (1, .int v1), (2, .int v2), (3, .int v3), (4, .int v4)] [] I := by
  unfold MD_bySearch_23b at h
  refine j_iload C d_MD_bySearch_23 4 rfl ?_
  refine j_aload_n C d_MD_bySearch_25 rfl 0 rfl ?_
  refine fg_MD_7 C g_h0 d_MD_bySearch_26 ?_
  refine j_icmp_ge C d_MD_bySearch_29 (tgt := 98) (by decide) (fun c29 => ?_) (fun c29 => ?_)
  · have h := h.1 c29
    refine j_aload_n C d_MD_bySearch_98 rfl 0 rfl ?_
    refine fg_MD_24 C g_h0 d_MD_bySearch_99 ?_
    refine j_iload_n C d_MD_bySearch_102 rfl 2 rfl ?_
    refine j_iload_n C d_MD_bySearch_103 rfl 3 rfl ?_
    obtain ⟨hi, h⟩ := h
    refine j_iastore C (sh_MD_4 hE g_h0) hi d_MD_bySearch_104 ?_
    have h := h _ rfl
    generalize eI_1 : (jwr I (jr h0 4) v2.toNatClampNeg v3 : jM) = I_1 at h ⊢
    refine j_iload_n C d_MD_bySearch_105 rfl 1 rfl ?_
    refine j_iconst C d_MD_bySearch_106 ic_1 ?_
    refine j_iload_n C d_MD_bySearch_107 rfl 3 rfl ?_
    refine j_ishl C d_MD_bySearch_108 ?_
    refine j_ior C d_MD_bySearch_109 ?_
    refine j_topi (fun v1_2 ev1_2 => ?_)
    have h := h v1_2 ev1_2
    refine j_istore_n C d_MD_bySearch_110 rfl (by decide) (lv' := [(1, .int v1_2), (0, .ref (E.2.2.1 h0)), (2, .int v2), (3, .int v3), (4, .int v4)]) rfl ?_
    refine j_iinc C d_MD_bySearch_111 2 rfl (v := (v2 + (-1))) rfl (by decide) (lv' := [(2, .int (v2 + (-1))), (1, .int v1_2), (0, .ref (E.2.2.1 h0)), (3, .int v3), (4, .int v4)]) rfl ?_
    refine j_goto C d_MD_bySearch_114 (tgt := 13) (by decide) ?_
    refine j_lv [2, 1, 0] rfl ?_
    exact hX13 (v1_2, (v2 + (-1)), I_1) h
  · have h := h.2 c29
    refine j_iload_n C d_MD_bySearch_32 rfl 1 rfl ?_
    refine j_iload C d_MD_bySearch_33 4 rfl ?_
    refine j_ishr C d_MD_bySearch_35 ?_
    refine j_iconst C d_MD_bySearch_36 ic_1 ?_
    refine j_iand C d_MD_bySearch_37 ?_
    refine j_if_ne C d_MD_bySearch_38 (tgt := 45) (by decide) (fun c38 => ?_) (fun c38 => ?_)
    · have h := h.1 c38
      refine j_iconst C d_MD_bySearch_45 ic_0 ?_
      refine j_lv [0, 1, 2, 3, 4] rfl ?_
      exact k_MD_bySearch_46 C hr hE h0 v1 v2 v3 v4 (0 : Int32) I g_h0 hX13 hX23 h
    · have h := h.2 c38
      refine j_iconst C d_MD_bySearch_41 ic_1 ?_
      refine j_goto C d_MD_bySearch_42 (tgt := 46) (by decide) ?_
      refine j_lv [0, 1, 2, 3, 4] rfl ?_
      exact k_MD_bySearch_46 C hr hE h0 v1 v2 v3 v4 (1 : Int32) I g_h0 hX13 hX23 h
theorem k_MD_bySearch_23 {Z : jZ} {E : jE} (C : jC Z E prog_14_method_19_code 6 "OutOrderModel" 1 22) (hr : (jZh Z).sig.returnType = none) (hE : E.2.2.2 = jLM)  (h0 : Nat) (v1 : Int32) (v2 : Int32) (v3 : Int32) (v4 : Int32) (I : jM) (g_h0 : jOB E 11 h0) {K : jM → Prop} {X13 : Int32 × Int32 × jM → Prop} (hX13 : ∀ s : Int32 × Int32 × jM, X13 s → jJ Z E 6 (jQv Z E K) 13 [(0, .ref (E.2.2.1 h0)), (1, .int s.1), (2, .int s.2.1)] [] s.2.2) (h : MD_bySearch_23 h0 v1 v2 v3 v4 I K X13) : jJ Z E 6 (jQv Z E K) 23 [(0, .ref (E.2.2.1 h0)), (1, .int v1), (2, .int v2), (3, .int v3), (4, .int v4)] [] I := by
  unfold MD_bySearch_23 at h
  exact h (fun s => jJ Z E 6 (jQv Z E K) 23 [(0, .ref (E.2.2.1 h0)), (1, .int v1), (2, .int v2), (3, .int s.1), (4, .int s.2)] [] I) (fun s hs => kb_MD_bySearch_23 C hr hE h0 v1 v2 s.1 s.2 I g_h0 hX13 (fun s2 h2 => h2) hs)
def MD_bySearch_13b (h0 : Nat) (v1 : Int32) (v2 : Int32) (I : jM) (K : jM → Prop) (X13 : Int32 × Int32 × jM → Prop) : Prop :=
  ((v2 < 0 → K I) ∧ (¬ v2 < 0 → MD_bySearch_23 h0 v1 v2 (-9 : Int32) (0 : Int32) I K X13))
def MD_bySearch_13 (h0 : Nat) (v1 : Int32) (v2 : Int32) (I : jM) (K : jM → Prop) : Prop :=
  lp (fun (X13 : Int32 × Int32 × jM → Prop) (s : Int32 × Int32 × jM) => MD_bySearch_13b h0 s.1 s.2.1 s.2.2 K X13) (v1, v2, I)
set_option maxRecDepth 100000 in
set_option maxHeartbeats 4000000 in
theorem kb_MD_bySearch_13 {Z : jZ} {E : jE} (C : jC Z E prog_14_method_19_code 6 "OutOrderModel" 1 22) (hr : (jZh Z).sig.returnType = none) (hE : E.2.2.2 = jLM)  (h0 : Nat) (v1 : Int32) (v2 : Int32) (I : jM) (g_h0 : jOB E 11 h0) {K : jM → Prop} {X13 : Int32 × Int32 × jM → Prop} (hX13 : ∀ s : Int32 × Int32 × jM, X13 s → jJ Z E 6 (jQv Z E K) 13 [(0, .ref (E.2.2.1 h0)), (1, .int s.1), (2, .int s.2.1)] [] s.2.2) (h : MD_bySearch_13b h0 v1 v2 I K X13) : jJ Z E 6 (jQv Z E K) 13 [(0, .ref (E.2.2.1 h0)), (1, .int v1), (2, .int v2)] [] I := by
  unfold MD_bySearch_13b at h
  refine j_iload_n C d_MD_bySearch_13 rfl 2 rfl ?_
  refine j_if_lt C d_MD_bySearch_14 (tgt := 117) (by decide) (fun c14 => ?_) (fun c14 => ?_)
  · have h := h.1 c14
    exact j_vret C hr d_MD_bySearch_117 h
  · have h := h.2 c14
    refine j_bipush C d_MD_bySearch_17 ib_m9 ?_
    refine j_istore_n C d_MD_bySearch_19 rfl (by decide) (lv' := [(3, .int (-9 : Int32)), (0, .ref (E.2.2.1 h0)), (1, .int v1), (2, .int v2)]) rfl ?_
    refine j_iconst C d_MD_bySearch_20 ic_0 ?_
    refine j_istore C d_MD_bySearch_21 (by decide) (lv' := [(4, .int (0 : Int32)), (3, .int (-9 : Int32)), (0, .ref (E.2.2.1 h0)), (1, .int v1), (2, .int v2)]) rfl ?_
    refine j_lv [2, 3, 4, 1, 0] rfl ?_
    exact k_MD_bySearch_23 C hr hE h0 v1 v2 (-9 : Int32) (0 : Int32) I g_h0 hX13 h
theorem k_MD_bySearch_13 {Z : jZ} {E : jE} (C : jC Z E prog_14_method_19_code 6 "OutOrderModel" 1 22) (hr : (jZh Z).sig.returnType = none) (hE : E.2.2.2 = jLM)  (h0 : Nat) (v1 : Int32) (v2 : Int32) (I : jM) (g_h0 : jOB E 11 h0) {K : jM → Prop} (h : MD_bySearch_13 h0 v1 v2 I K) : jJ Z E 6 (jQv Z E K) 13 [(0, .ref (E.2.2.1 h0)), (1, .int v1), (2, .int v2)] [] I := by
  unfold MD_bySearch_13 at h
  exact h (fun s => jJ Z E 6 (jQv Z E K) 13 [(0, .ref (E.2.2.1 h0)), (1, .int s.1), (2, .int s.2.1)] [] s.2.2) (fun s hs => kb_MD_bySearch_13 C hr hE h0 s.1 s.2.1 s.2.2 g_h0 (fun s2 h2 => h2) hs)
/-- OutOrderModel.bySearch()V -/
def MD_bySearch (h0 : Nat) (I : jM) (K : jM → Prop) : Prop :=
  MD_beginNet h0 I (fun I_2 => (∀ v2_3 : Int32, v2_3 = ((I_2 h0 0) - (1 : Int32)) → MD_bySearch_13 h0 (0 : Int32) v2_3 I_2 K))
set_option maxRecDepth 100000 in
set_option maxHeartbeats 4000000 in
theorem s_MD_bySearch {l : Launch} {E : jE} (ok : jOK E) (hE : E.2.2.2 = jLM) {h0 : Nat} (g_h0 : jOB E 11 h0) {I : jM} {K : jM → Prop} (h : MD_bySearch h0 I K) : jSv l E ⟨"OutOrderModel", "bySearch", "()V"⟩ prog_14_method_19_code 6 none 1 22 [.ref (E.2.2.1 h0)] I K := by
  refine jS_ofF (own := "OutOrderModel") (by decide +kernel) rfl ok (Nat.le_of_ble_eq_true rfl) (fun Z _ C hr => ?_)
  show jJ Z E 6 (jQv Z E K) 0 [(0, .ref (E.2.2.1 h0))] [] I
  unfold MD_bySearch at h
  refine j_aload_n C d_MD_bySearch_0 rfl 0 rfl ?_
  refine j_callVv (As := []) C jcl_MD cw_MD_100 w_821 ws_25 g_h0 rfl rfl (by decide) (by decide) (Nat.le_of_ble_eq_true rfl) d_MD_bySearch_1 (s_MD_beginNet C.ok hE g_h0 h) (fun I_2 h => ?_)
  refine j_iconst C d_MD_bySearch_4 ic_0 ?_
  refine j_istore_n C d_MD_bySearch_5 rfl (by decide) (lv' := [(1, .int (0 : Int32)), (0, .ref (E.2.2.1 h0))]) rfl ?_
  refine j_aload_n C d_MD_bySearch_6 rfl 1 rfl ?_
  refine fg_MD_7 C g_h0 d_MD_bySearch_7 ?_
  refine j_iconst C d_MD_bySearch_10 ic_1 ?_
  refine j_isub C d_MD_bySearch_11 ?_
  refine j_topi (fun v2_3 ev2_3 => ?_)
  have h := h v2_3 ev2_3
  refine j_istore_n C d_MD_bySearch_12 rfl (by decide) (lv' := [(2, .int v2_3), (1, .int (0 : Int32)), (0, .ref (E.2.2.1 h0))]) rfl ?_
  refine j_lv [2, 1, 0] rfl ?_
  exact k_MD_bySearch_13 C hr hE h0 (0 : Int32) v2_3 I_2 g_h0 h
