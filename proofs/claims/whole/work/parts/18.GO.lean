theorem d_GO_isTwin_0 : decode prog_3_method_6_code 0 = .ok (.aload_n 0, 1) := by decide +kernel
theorem d_GO_isTwin_1 : decode prog_3_method_6_code 1 = .ok (.getfield 12, 3) := by decide +kernel
theorem d_GO_isTwin_4 : decode prog_3_method_6_code 4 = .ok (.getfield 37, 3) := by decide +kernel
theorem d_GO_isTwin_7 : decode prog_3_method_6_code 7 = .ok (.iload_n 1, 1) := by decide +kernel
theorem d_GO_isTwin_8 : decode prog_3_method_6_code 8 = .ok (.iaload, 1) := by decide +kernel
theorem d_GO_isTwin_9 : decode prog_3_method_6_code 9 = .ok (.iconst 1, 1) := by decide +kernel
theorem d_GO_isTwin_10 : decode prog_3_method_6_code 10 = .ok (.iload_n 1, 1) := by decide +kernel
theorem d_GO_isTwin_11 : decode prog_3_method_6_code 11 = .ok (.ishl, 1) := by decide +kernel
theorem d_GO_isTwin_12 : decode prog_3_method_6_code 12 = .ok (.ior, 1) := by decide +kernel
theorem d_GO_isTwin_13 : decode prog_3_method_6_code 13 = .ok (.istore_n 2, 1) := by decide +kernel
theorem d_GO_isTwin_14 : decode prog_3_method_6_code 14 = .ok (.iconst 0, 1) := by decide +kernel
theorem d_GO_isTwin_15 : decode prog_3_method_6_code 15 = .ok (.istore_n 3, 1) := by decide +kernel
theorem d_GO_isTwin_16 : decode prog_3_method_6_code 16 = .ok (.iload_n 3, 1) := by decide +kernel
theorem d_GO_isTwin_17 : decode prog_3_method_6_code 17 = .ok (.iload_n 1, 1) := by decide +kernel
theorem d_GO_isTwin_18 : decode prog_3_method_6_code 18 = .ok (.if_icmp .ge 57, 3) := by decide +kernel
theorem d_GO_isTwin_21 : decode prog_3_method_6_code 21 = .ok (.aload_n 0, 1) := by decide +kernel
theorem d_GO_isTwin_22 : decode prog_3_method_6_code 22 = .ok (.getfield 12, 3) := by decide +kernel
theorem d_GO_isTwin_25 : decode prog_3_method_6_code 25 = .ok (.getfield 37, 3) := by decide +kernel
theorem d_GO_isTwin_28 : decode prog_3_method_6_code 28 = .ok (.iload_n 1, 1) := by decide +kernel
theorem d_GO_isTwin_29 : decode prog_3_method_6_code 29 = .ok (.iaload, 1) := by decide +kernel
theorem d_GO_isTwin_30 : decode prog_3_method_6_code 30 = .ok (.iload_n 3, 1) := by decide +kernel
theorem d_GO_isTwin_31 : decode prog_3_method_6_code 31 = .ok (.ishr, 1) := by decide +kernel
theorem d_GO_isTwin_32 : decode prog_3_method_6_code 32 = .ok (.iconst 1, 1) := by decide +kernel
theorem d_GO_isTwin_33 : decode prog_3_method_6_code 33 = .ok (.iand, 1) := by decide +kernel
theorem d_GO_isTwin_34 : decode prog_3_method_6_code 34 = .ok (.iconst 1, 1) := by decide +kernel
theorem d_GO_isTwin_35 : decode prog_3_method_6_code 35 = .ok (.if_icmp .ne 7, 3) := by decide +kernel
theorem d_GO_isTwin_38 : decode prog_3_method_6_code 38 = .ok (.iconst 1, 1) := by decide +kernel
theorem d_GO_isTwin_39 : decode prog_3_method_6_code 39 = .ok (.goto 4, 3) := by decide +kernel
theorem d_GO_isTwin_42 : decode prog_3_method_6_code 42 = .ok (.iconst 0, 1) := by decide +kernel
theorem d_GO_isTwin_43 : decode prog_3_method_6_code 43 = .ok (.istore 4, 2) := by decide +kernel
theorem d_GO_isTwin_45 : decode prog_3_method_6_code 45 = .ok (.iload 4, 2) := by decide +kernel
theorem d_GO_isTwin_47 : decode prog_3_method_6_code 47 = .ok (.ifCond .eq 22, 3) := by decide +kernel
theorem d_GO_isTwin_50 : decode prog_3_method_6_code 50 = .ok (.aload_n 0, 1) := by decide +kernel
theorem d_GO_isTwin_51 : decode prog_3_method_6_code 51 = .ok (.getfield 12, 3) := by decide +kernel
theorem d_GO_isTwin_54 : decode prog_3_method_6_code 54 = .ok (.getfield 37, 3) := by decide +kernel
theorem d_GO_isTwin_57 : decode prog_3_method_6_code 57 = .ok (.iload_n 3, 1) := by decide +kernel
theorem d_GO_isTwin_58 : decode prog_3_method_6_code 58 = .ok (.iaload, 1) := by decide +kernel
theorem d_GO_isTwin_59 : decode prog_3_method_6_code 59 = .ok (.iconst 1, 1) := by decide +kernel
theorem d_GO_isTwin_60 : decode prog_3_method_6_code 60 = .ok (.iload_n 3, 1) := by decide +kernel
theorem d_GO_isTwin_61 : decode prog_3_method_6_code 61 = .ok (.ishl, 1) := by decide +kernel
theorem d_GO_isTwin_62 : decode prog_3_method_6_code 62 = .ok (.ior, 1) := by decide +kernel
theorem d_GO_isTwin_63 : decode prog_3_method_6_code 63 = .ok (.iload_n 2, 1) := by decide +kernel
theorem d_GO_isTwin_64 : decode prog_3_method_6_code 64 = .ok (.if_icmp .ne 5, 3) := by decide +kernel
theorem d_GO_isTwin_67 : decode prog_3_method_6_code 67 = .ok (.iconst 1, 1) := by decide +kernel
theorem d_GO_isTwin_68 : decode prog_3_method_6_code 68 = .ok (.ireturn, 1) := by decide +kernel
theorem d_GO_isTwin_69 : decode prog_3_method_6_code 69 = .ok (.iinc 3 1, 3) := by decide +kernel
theorem d_GO_isTwin_72 : decode prog_3_method_6_code 72 = .ok (.goto (-56), 3) := by decide +kernel
theorem d_GO_isTwin_75 : decode prog_3_method_6_code 75 = .ok (.iconst 0, 1) := by decide +kernel
theorem d_GO_isTwin_76 : decode prog_3_method_6_code 76 = .ok (.ireturn, 1) := by decide +kernel
def GO_isTwin_43 (h0 : Nat) (v1 : Int32) (v2 : Int32) (v3 : Int32) (s0 : Int32) (I : jM) (K : Int32 → Prop) (X16 : Int32 → Prop) : Prop :=
  ((s0 = 0 → X16 (v3 + 1)) ∧ (¬ s0 = 0 → (vp_in v3 24 ∧ ((¬ ((I (jr (jr h0 0) 0) v3.toNatClampNeg) ||| ((1 : Int32) <<< (v3 &&& 31))) = v2 → X16 (v3 + 1)) ∧ (((I (jr (jr h0 0) 0) v3.toNatClampNeg) ||| ((1 : Int32) <<< (v3 &&& 31))) = v2 → K (1 : Int32))))))
set_option maxRecDepth 100000 in
set_option maxHeartbeats 4000000 in
theorem k_GO_isTwin_43 {Z : jZ} {E : jE} (C : jC Z E prog_3_method_6_code 5 "OutOrder$Going" 0 0) (hr : (jZh Z).sig.returnType = (some .boolean)) (hE : E.2.2.2 = jLX)  (h0 : Nat) (v1 : Int32) (v2 : Int32) (v3 : Int32) (s0 : Int32) (I : jM) (g_h0 : jOB E 1 h0) {K : Int32 → Prop} {X16 : Int32 → Prop} (hX16 : ∀ s : Int32, X16 s → jJ Z E 5 (jQi Z E (fun r I2 => I = I2 ∧ K r)) 16 [(0, .ref (E.2.2.1 h0)), (1, .int v1), (2, .int v2), (3, .int s)] [] I) (h : GO_isTwin_43 h0 v1 v2 v3 s0 I K X16) : jJ Z E 5 (jQi Z E (fun r I2 => I = I2 ∧ K r)) 43 [(0, .ref (E.2.2.1 h0)), (1, .int v1), (2, .int v2), (3, .int v3)] [.int s0] I := by
  unfold GO_isTwin_43 at h
  refine j_istore C d_GO_isTwin_43 (by decide) (lv' := [(4, .int s0), (0, .ref (E.2.2.1 h0)), (1, .int v1), (2, .int v2), (3, .int v3)]) rfl ?_
  refine j_iload C d_GO_isTwin_45 0 rfl ?_
  refine j_if_eq C d_GO_isTwin_47 (tgt := 69) (by decide) (fun c47 => ?_) (fun c47 => ?_)
  · have h := h.1 c47
    refine j_iinc C d_GO_isTwin_69 4 rfl (v := (v3 + 1)) rfl (by decide) (lv' := [(3, .int (v3 + 1)), (4, .int s0), (0, .ref (E.2.2.1 h0)), (1, .int v1), (2, .int v2)]) rfl ?_
    refine j_goto C d_GO_isTwin_72 (tgt := 16) (by decide) ?_
    refine j_lv [2, 3, 4, 0] rfl ?_
    exact hX16 (v3 + 1) h
  · have h := h.2 c47
    refine j_aload_n C d_GO_isTwin_50 rfl 1 rfl ?_
    refine fg_GO_12 C g_h0 d_GO_isTwin_51 ?_
    refine fg_GO_37 C (sh_GO_0 hE g_h0) d_GO_isTwin_54 ?_
    refine j_iload_n C d_GO_isTwin_57 rfl 4 rfl ?_
    obtain ⟨hi, h⟩ := h
    refine j_iaload C (sh_NE_0 hE (sh_GO_0 hE g_h0)) hi d_GO_isTwin_58 ?_
    refine j_iconst C d_GO_isTwin_59 ic_1 ?_
    refine j_iload_n C d_GO_isTwin_60 rfl 4 rfl ?_
    refine j_ishl C d_GO_isTwin_61 ?_
    refine j_ior C d_GO_isTwin_62 ?_
    refine j_iload_n C d_GO_isTwin_63 rfl 3 rfl ?_
    refine j_icmp_ne C d_GO_isTwin_64 (tgt := 69) (by decide) (fun c64 => ?_) (fun c64 => ?_)
    · have h := h.1 c64
      refine j_iinc C d_GO_isTwin_69 4 rfl (v := (v3 + 1)) rfl (by decide) (lv' := [(3, .int (v3 + 1)), (4, .int s0), (0, .ref (E.2.2.1 h0)), (1, .int v1), (2, .int v2)]) rfl ?_
      refine j_goto C d_GO_isTwin_72 (tgt := 16) (by decide) ?_
      refine j_lv [2, 3, 4, 0] rfl ?_
      exact hX16 (v3 + 1) h
    · have h := h.2 c64
      refine j_iconst C d_GO_isTwin_67 ic_1 ?_
      exact j_zret C hr (by decide) d_GO_isTwin_68 ⟨rfl, h⟩
def GO_isTwin_16b (h0 : Nat) (v1 : Int32) (v2 : Int32) (v3 : Int32) (I : jM) (K : Int32 → Prop) (X16 : Int32 → Prop) : Prop :=
  ((v1 ≤ v3 → K (0 : Int32)) ∧ (¬ v1 ≤ v3 → (vp_in v1 24 ∧ ((¬ (((I (jr (jr h0 0) 0) v1.toNatClampNeg) >>> (v3 &&& 31)) &&& (1 : Int32)) = (1 : Int32) → GO_isTwin_43 h0 v1 v2 v3 (0 : Int32) I K X16) ∧ ((((I (jr (jr h0 0) 0) v1.toNatClampNeg) >>> (v3 &&& 31)) &&& (1 : Int32)) = (1 : Int32) → GO_isTwin_43 h0 v1 v2 v3 (1 : Int32) I K X16)))))
def GO_isTwin_16 (h0 : Nat) (v1 : Int32) (v2 : Int32) (v3 : Int32) (I : jM) (K : Int32 → Prop) : Prop :=
  lp (fun (X16 : Int32 → Prop) (s : Int32) => GO_isTwin_16b h0 v1 v2 s I K X16) v3
set_option maxRecDepth 100000 in
set_option maxHeartbeats 4000000 in
theorem kb_GO_isTwin_16 {Z : jZ} {E : jE} (C : jC Z E prog_3_method_6_code 5 "OutOrder$Going" 0 0) (hr : (jZh Z).sig.returnType = (some .boolean)) (hE : E.2.2.2 = jLX)  (h0 : Nat) (v1 : Int32) (v2 : Int32) (v3 : Int32) (I : jM) (g_h0 : jOB E 1 h0) {K : Int32 → Prop} {X16 : Int32 → Prop} (hX16 : ∀ s : Int32, X16 s → jJ Z E 5 (jQi Z E (fun r I2 => I = I2 ∧ K r)) 16 [(0, .ref (E.2.2.1 h0)), (1, .int v1), (2, .int v2), (3, .int s)] [] I) (h : GO_isTwin_16b h0 v1 v2 v3 I K X16) : jJ Z E 5 (jQi Z E (fun r I2 => I = I2 ∧ K r)) 16 [(0, .ref (E.2.2.1 h0)), (1, .int v1), (2, .int v2), (3, .int v3)] [] I := by
  unfold GO_isTwin_16b at h
  refine j_iload_n C d_GO_isTwin_16 rfl 3 rfl ?_
  refine j_iload_n C d_GO_isTwin_17 rfl 1 rfl ?_
  refine j_icmp_ge C d_GO_isTwin_18 (tgt := 75) (by decide) (fun c18 => ?_) (fun c18 => ?_)
  · have h := h.1 c18
    refine j_iconst C d_GO_isTwin_75 ic_0 ?_
    exact j_zret C hr (by decide) d_GO_isTwin_76 ⟨rfl, h⟩
  · have h := h.2 c18
    refine j_aload_n C d_GO_isTwin_21 rfl 0 rfl ?_
    refine fg_GO_12 C g_h0 d_GO_isTwin_22 ?_
    refine fg_GO_37 C (sh_GO_0 hE g_h0) d_GO_isTwin_25 ?_
    refine j_iload_n C d_GO_isTwin_28 rfl 1 rfl ?_
    obtain ⟨hi, h⟩ := h
    refine j_iaload C (sh_NE_0 hE (sh_GO_0 hE g_h0)) hi d_GO_isTwin_29 ?_
    refine j_iload_n C d_GO_isTwin_30 rfl 3 rfl ?_
    refine j_ishr C d_GO_isTwin_31 ?_
    refine j_iconst C d_GO_isTwin_32 ic_1 ?_
    refine j_iand C d_GO_isTwin_33 ?_
    refine j_iconst C d_GO_isTwin_34 ic_1 ?_
    refine j_icmp_ne C d_GO_isTwin_35 (tgt := 42) (by decide) (fun c35 => ?_) (fun c35 => ?_)
    · have h := h.1 c35
      refine j_iconst C d_GO_isTwin_42 ic_0 ?_
      refine j_lv [0, 1, 2, 3] rfl ?_
      exact k_GO_isTwin_43 C hr hE h0 v1 v2 v3 (0 : Int32) I g_h0 hX16 h
    · have h := h.2 c35
      refine j_iconst C d_GO_isTwin_38 ic_1 ?_
      refine j_goto C d_GO_isTwin_39 (tgt := 43) (by decide) ?_
      refine j_lv [0, 1, 2, 3] rfl ?_
      exact k_GO_isTwin_43 C hr hE h0 v1 v2 v3 (1 : Int32) I g_h0 hX16 h
theorem k_GO_isTwin_16 {Z : jZ} {E : jE} (C : jC Z E prog_3_method_6_code 5 "OutOrder$Going" 0 0) (hr : (jZh Z).sig.returnType = (some .boolean)) (hE : E.2.2.2 = jLX)  (h0 : Nat) (v1 : Int32) (v2 : Int32) (v3 : Int32) (I : jM) (g_h0 : jOB E 1 h0) {K : Int32 → Prop} (h : GO_isTwin_16 h0 v1 v2 v3 I K) : jJ Z E 5 (jQi Z E (fun r I2 => I = I2 ∧ K r)) 16 [(0, .ref (E.2.2.1 h0)), (1, .int v1), (2, .int v2), (3, .int v3)] [] I := by
  unfold GO_isTwin_16 at h
  exact h (fun s => jJ Z E 5 (jQi Z E (fun r I2 => I = I2 ∧ K r)) 16 [(0, .ref (E.2.2.1 h0)), (1, .int v1), (2, .int v2), (3, .int s)] [] I) (fun s hs => kb_GO_isTwin_16 C hr hE h0 v1 v2 s I g_h0 (fun s2 h2 => h2) hs)
/-- OutOrder$Going.isTwin(I)Z -/
def GO_isTwin (h0 : Nat) (v1 : Int32) (I : jM) (K : Int32 → Prop) : Prop :=
  (vp_in v1 24 ∧ (∀ v2_1 : Int32, v2_1 = ((I (jr (jr h0 0) 0) v1.toNatClampNeg) ||| ((1 : Int32) <<< (v1 &&& 31))) → GO_isTwin_16 h0 v1 v2_1 (0 : Int32) I K))
set_option maxRecDepth 100000 in
set_option maxHeartbeats 4000000 in
theorem s_GO_isTwin {l : Launch} {E : jE} (ok : jOK E) (hE : E.2.2.2 = jLX) {h0 : Nat} {v1 : Int32} (g_h0 : jOB E 1 h0) {I : jM} {K : Int32 → Prop} (h : GO_isTwin h0 v1 I K) : jSi l E ⟨"OutOrder$Going", "isTwin", "(I)Z"⟩ prog_3_method_6_code 5 (some .boolean) 0 0 [.ref (E.2.2.1 h0), .int v1] I (fun r I2 => I = I2 ∧ K r) := by
  refine jS_ofF (own := "OutOrder$Going") (by decide +kernel) rfl ok (Nat.le_of_ble_eq_true rfl) (fun Z _ C hr => ?_)
  show jJ Z E 5 (jQi Z E (fun r I2 => I = I2 ∧ K r)) 0 [(0, .ref (E.2.2.1 h0)), (1, .int v1)] [] I
  unfold GO_isTwin at h
  refine j_aload_n C d_GO_isTwin_0 rfl 0 rfl ?_
  refine fg_GO_12 C g_h0 d_GO_isTwin_1 ?_
  refine fg_GO_37 C (sh_GO_0 hE g_h0) d_GO_isTwin_4 ?_
  refine j_iload_n C d_GO_isTwin_7 rfl 1 rfl ?_
  obtain ⟨hi, h⟩ := h
  refine j_iaload C (sh_NE_0 hE (sh_GO_0 hE g_h0)) hi d_GO_isTwin_8 ?_
  refine j_iconst C d_GO_isTwin_9 ic_1 ?_
  refine j_iload_n C d_GO_isTwin_10 rfl 1 rfl ?_
  refine j_ishl C d_GO_isTwin_11 ?_
  refine j_ior C d_GO_isTwin_12 ?_
  refine j_topi (fun v2_1 ev2_1 => ?_)
  have h := h v2_1 ev2_1
  refine j_istore_n C d_GO_isTwin_13 rfl (by decide) (lv' := [(2, .int v2_1), (0, .ref (E.2.2.1 h0)), (1, .int v1)]) rfl ?_
  refine j_iconst C d_GO_isTwin_14 ic_0 ?_
  refine j_istore_n C d_GO_isTwin_15 rfl (by decide) (lv' := [(3, .int (0 : Int32)), (2, .int v2_1), (0, .ref (E.2.2.1 h0)), (1, .int v1)]) rfl ?_
  refine j_lv [2, 3, 1, 0] rfl ?_
  exact k_GO_isTwin_16 C hr hE h0 v1 v2_1 (0 : Int32) I g_h0 h
theorem d_GO_kind_0 : decode prog_3_method_5_code 0 = .ok (.iload_n 2, 1) := by decide +kernel
theorem d_GO_kind_1 : decode prog_3_method_5_code 1 = .ok (.iload_n 1, 1) := by decide +kernel
theorem d_GO_kind_2 : decode prog_3_method_5_code 2 = .ok (.ishr, 1) := by decide +kernel
theorem d_GO_kind_3 : decode prog_3_method_5_code 3 = .ok (.iconst 1, 1) := by decide +kernel
theorem d_GO_kind_4 : decode prog_3_method_5_code 4 = .ok (.iand, 1) := by decide +kernel
theorem d_GO_kind_5 : decode prog_3_method_5_code 5 = .ok (.iconst 1, 1) := by decide +kernel
theorem d_GO_kind_6 : decode prog_3_method_5_code 6 = .ok (.if_icmp .ne 19, 3) := by decide +kernel
theorem d_GO_kind_9 : decode prog_3_method_5_code 9 = .ok (.aload_n 0, 1) := by decide +kernel
theorem d_GO_kind_10 : decode prog_3_method_5_code 10 = .ok (.getfield 12, 3) := by decide +kernel
theorem d_GO_kind_13 : decode prog_3_method_5_code 13 = .ok (.getfield 34, 3) := by decide +kernel
theorem d_GO_kind_16 : decode prog_3_method_5_code 16 = .ok (.iload_n 2, 1) := by decide +kernel
theorem d_GO_kind_17 : decode prog_3_method_5_code 17 = .ok (.iconst (-1), 1) := by decide +kernel
theorem d_GO_kind_18 : decode prog_3_method_5_code 18 = .ok (.ixor, 1) := by decide +kernel
theorem d_GO_kind_19 : decode prog_3_method_5_code 19 = .ok (.iand, 1) := by decide +kernel
theorem d_GO_kind_20 : decode prog_3_method_5_code 20 = .ok (.ifCond .eq 5, 3) := by decide +kernel
theorem d_GO_kind_23 : decode prog_3_method_5_code 23 = .ok (.iconst 4, 1) := by decide +kernel
theorem d_GO_kind_24 : decode prog_3_method_5_code 24 = .ok (.ireturn, 1) := by decide +kernel
theorem d_GO_kind_25 : decode prog_3_method_5_code 25 = .ok (.aload_n 0, 1) := by decide +kernel
theorem d_GO_kind_26 : decode prog_3_method_5_code 26 = .ok (.getfield 12, 3) := by decide +kernel
theorem d_GO_kind_29 : decode prog_3_method_5_code 29 = .ok (.getfield 37, 3) := by decide +kernel
theorem d_GO_kind_32 : decode prog_3_method_5_code 32 = .ok (.iload_n 1, 1) := by decide +kernel
theorem d_GO_kind_33 : decode prog_3_method_5_code 33 = .ok (.iaload, 1) := by decide +kernel
theorem d_GO_kind_34 : decode prog_3_method_5_code 34 = .ok (.ifCond .ne 5, 3) := by decide +kernel
theorem d_GO_kind_37 : decode prog_3_method_5_code 37 = .ok (.iconst 3, 1) := by decide +kernel
theorem d_GO_kind_38 : decode prog_3_method_5_code 38 = .ok (.ireturn, 1) := by decide +kernel
theorem d_GO_kind_39 : decode prog_3_method_5_code 39 = .ok (.aload_n 0, 1) := by decide +kernel
theorem d_GO_kind_40 : decode prog_3_method_5_code 40 = .ok (.iload_n 1, 1) := by decide +kernel
theorem d_GO_kind_41 : decode prog_3_method_5_code 41 = .ok (.invokevirtual 40, 3) := by decide +kernel
theorem d_GO_kind_44 : decode prog_3_method_5_code 44 = .ok (.ifCond .eq 5, 3) := by decide +kernel
theorem d_GO_kind_47 : decode prog_3_method_5_code 47 = .ok (.iconst 2, 1) := by decide +kernel
theorem d_GO_kind_48 : decode prog_3_method_5_code 48 = .ok (.ireturn, 1) := by decide +kernel
theorem d_GO_kind_49 : decode prog_3_method_5_code 49 = .ok (.aload_n 0, 1) := by decide +kernel
theorem d_GO_kind_50 : decode prog_3_method_5_code 50 = .ok (.getfield 12, 3) := by decide +kernel
theorem d_GO_kind_53 : decode prog_3_method_5_code 53 = .ok (.iload_n 1, 1) := by decide +kernel
theorem d_GO_kind_54 : decode prog_3_method_5_code 54 = .ok (.invokevirtual 44, 3) := by decide +kernel
theorem d_GO_kind_57 : decode prog_3_method_5_code 57 = .ok (.ifCond .ne 7, 3) := by decide +kernel
theorem d_GO_kind_60 : decode prog_3_method_5_code 60 = .ok (.iconst 1, 1) := by decide +kernel
theorem d_GO_kind_61 : decode prog_3_method_5_code 61 = .ok (.goto 4, 3) := by decide +kernel
theorem d_GO_kind_64 : decode prog_3_method_5_code 64 = .ok (.iconst 0, 1) := by decide +kernel
theorem d_GO_kind_65 : decode prog_3_method_5_code 65 = .ok (.ireturn, 1) := by decide +kernel
def GO_kind_25 (h0 : Nat) (v1 : Int32) (I : jM) (K : Int32 → Prop) : Prop :=
  (vp_in v1 24 ∧ ((¬ (I (jr (jr h0 0) 0) v1.toNatClampNeg) = 0 → GO_isTwin h0 v1 I (fun r_1 => ((r_1 = 0 → NE_missing (jr h0 0) v1 I (fun r_2 => ((¬ r_2 = 0 → K (0 : Int32)) ∧ (r_2 = 0 → K (1 : Int32))))) ∧ (¬ r_1 = 0 → K (2 : Int32))))) ∧ ((I (jr (jr h0 0) 0) v1.toNatClampNeg) = 0 → K (3 : Int32))))
set_option maxRecDepth 100000 in
set_option maxHeartbeats 4000000 in
theorem k_GO_kind_25 {Z : jZ} {E : jE} (C : jC Z E prog_3_method_5_code 3 "OutOrder$Going" 2 44) (hr : (jZh Z).sig.returnType = (some .int)) (hE : E.2.2.2 = jLX)  (h0 : Nat) (v1 : Int32) (I : jM) (g_h0 : jOB E 1 h0) {K : Int32 → Prop} (h : GO_kind_25 h0 v1 I K) : jJ Z E 3 (jQi Z E (fun r I2 => I = I2 ∧ K r)) 25 [(0, .ref (E.2.2.1 h0)), (1, .int v1)] [] I := by
  unfold GO_kind_25 at h
  refine j_aload_n C d_GO_kind_25 rfl 0 rfl ?_
  refine fg_GO_12 C g_h0 d_GO_kind_26 ?_
  refine fg_GO_37 C (sh_GO_0 hE g_h0) d_GO_kind_29 ?_
  refine j_iload_n C d_GO_kind_32 rfl 1 rfl ?_
  obtain ⟨hi, h⟩ := h
  refine j_iaload C (sh_NE_0 hE (sh_GO_0 hE g_h0)) hi d_GO_kind_33 ?_
  refine j_if_ne C d_GO_kind_34 (tgt := 39) (by decide) (fun c34 => ?_) (fun c34 => ?_)
  · have h := h.1 c34
    refine j_aload_n C d_GO_kind_39 rfl 0 rfl ?_
    refine j_iload_n C d_GO_kind_40 rfl 1 rfl ?_
    refine j_callVi (As := [.int v1]) C jcl_GO cw_GO_40 w_605 ws_19 g_h0 rfl rfl (by decide) (by decide) (Nat.le_of_ble_eq_true rfl) d_GO_kind_41 (s_GO_isTwin C.ok hE g_h0 h) (fun r_1 I2 h => ?_)
    obtain ⟨rfl, h⟩ := h
    refine j_if_eq C d_GO_kind_44 (tgt := 49) (by decide) (fun c44 => ?_) (fun c44 => ?_)
    · have h := h.1 c44
      refine j_aload_n C d_GO_kind_49 rfl 0 rfl ?_
      refine fg_GO_12 C g_h0 d_GO_kind_50 ?_
      refine j_iload_n C d_GO_kind_53 rfl 1 rfl ?_
      refine j_callVi (As := [.int v1]) C jcl_NE cw_GO_44 w_484 w_485 (sh_GO_0 hE g_h0) rfl rfl (by decide) (by decide) (Nat.le_of_ble_eq_true rfl) d_GO_kind_54 (s_NE_missing C.ok hE (sh_GO_0 hE g_h0) h) (fun r_2 I2 h => ?_)
      obtain ⟨rfl, h⟩ := h
      refine j_if_ne C d_GO_kind_57 (tgt := 64) (by decide) (fun c57 => ?_) (fun c57 => ?_)
      · have h := h.1 c57
        refine j_iconst C d_GO_kind_64 ic_0 ?_
        exact j_iret C hr d_GO_kind_65 ⟨rfl, h⟩
      · have h := h.2 c57
        refine j_iconst C d_GO_kind_60 ic_1 ?_
        refine j_goto C d_GO_kind_61 (tgt := 65) (by decide) ?_
        exact j_iret C hr d_GO_kind_65 ⟨rfl, h⟩
    · have h := h.2 c44
      refine j_iconst C d_GO_kind_47 ic_2 ?_
      exact j_iret C hr d_GO_kind_48 ⟨rfl, h⟩
  · have h := h.2 c34
    refine j_iconst C d_GO_kind_37 ic_3 ?_
    exact j_iret C hr d_GO_kind_38 ⟨rfl, h⟩
/-- OutOrder$Going.kind(II)I -/
def GO_kind (h0 : Nat) (v1 : Int32) (v2 : Int32) (I : jM) (K : Int32 → Prop) : Prop :=
  ((¬ ((v2 >>> (v1 &&& 31)) &&& (1 : Int32)) = (1 : Int32) → GO_kind_25 h0 v1 I K) ∧ (((v2 >>> (v1 &&& 31)) &&& (1 : Int32)) = (1 : Int32) → ((((I (jr h0 0) 1) &&& (v2 ^^^ (-1 : Int32))) = 0 → GO_kind_25 h0 v1 I K) ∧ (¬ ((I (jr h0 0) 1) &&& (v2 ^^^ (-1 : Int32))) = 0 → K (4 : Int32)))))
set_option maxRecDepth 100000 in
set_option maxHeartbeats 4000000 in
theorem s_GO_kind {l : Launch} {E : jE} (ok : jOK E) (hE : E.2.2.2 = jLX) {h0 : Nat} {v1 : Int32} {v2 : Int32} (g_h0 : jOB E 1 h0) {I : jM} {K : Int32 → Prop} (h : GO_kind h0 v1 v2 I K) : jSi l E ⟨"OutOrder$Going", "kind", "(II)I"⟩ prog_3_method_5_code 3 (some .int) 2 44 [.ref (E.2.2.1 h0), .int v1, .int v2] I (fun r I2 => I = I2 ∧ K r) := by
  refine jS_ofF (own := "OutOrder$Going") (by decide +kernel) rfl ok (Nat.le_of_ble_eq_true rfl) (fun Z _ C hr => ?_)
  show jJ Z E 3 (jQi Z E (fun r I2 => I = I2 ∧ K r)) 0 [(0, .ref (E.2.2.1 h0)), (1, .int v1), (2, .int v2)] [] I
  unfold GO_kind at h
  refine j_iload_n C d_GO_kind_0 rfl 2 rfl ?_
  refine j_iload_n C d_GO_kind_1 rfl 1 rfl ?_
  refine j_ishr C d_GO_kind_2 ?_
  refine j_iconst C d_GO_kind_3 ic_1 ?_
  refine j_iand C d_GO_kind_4 ?_
  refine j_iconst C d_GO_kind_5 ic_1 ?_
  refine j_icmp_ne C d_GO_kind_6 (tgt := 25) (by decide) (fun c6 => ?_) (fun c6 => ?_)
  · have h := h.1 c6
    refine j_lv [0, 1] rfl ?_
    exact k_GO_kind_25 C hr hE h0 v1 I g_h0 h
  · have h := h.2 c6
    refine j_aload_n C d_GO_kind_9 rfl 0 rfl ?_
    refine fg_GO_12 C g_h0 d_GO_kind_10 ?_
    refine fg_GO_34 C (sh_GO_0 hE g_h0) d_GO_kind_13 ?_
    refine j_iload_n C d_GO_kind_16 rfl 2 rfl ?_
    refine j_iconst C d_GO_kind_17 ic_m1 ?_
    refine j_ixor C d_GO_kind_18 ?_
    refine j_iand C d_GO_kind_19 ?_
    refine j_if_eq C d_GO_kind_20 (tgt := 25) (by decide) (fun c20 => ?_) (fun c20 => ?_)
    · have h := h.1 c20
      refine j_lv [0, 1] rfl ?_
      exact k_GO_kind_25 C hr hE h0 v1 I g_h0 h
    · have h := h.2 c20
      refine j_iconst C d_GO_kind_23 ic_4 ?_
      exact j_iret C hr d_GO_kind_24 ⟨rfl, h⟩
theorem d_GO_restart_0 : decode prog_3_method_2_code 0 = .ok (.aload_n 0, 1) := by decide +kernel
theorem d_GO_restart_1 : decode prog_3_method_2_code 1 = .ok (.getfield 12, 3) := by decide +kernel
theorem d_GO_restart_4 : decode prog_3_method_2_code 4 = .ok (.aload_n 1, 1) := by decide +kernel
theorem d_GO_restart_5 : decode prog_3_method_2_code 5 = .ok (.invokevirtual 22, 3) := by decide +kernel
theorem d_GO_restart_8 : decode prog_3_method_2_code 8 = .ok (.aload_n 0, 1) := by decide +kernel
theorem d_GO_restart_9 : decode prog_3_method_2_code 9 = .ok (.iconst 0, 1) := by decide +kernel
theorem d_GO_restart_10 : decode prog_3_method_2_code 10 = .ok (.putfield 26, 3) := by decide +kernel
theorem d_GO_restart_13 : decode prog_3_method_2_code 13 = .ok (.return_, 1) := by decide +kernel
/-- OutOrder$Going.restart(LOutOrder$Table;)V -/
def GO_restart (h0 : Nat) (h1 : Nat) (I : jM) (K : jM → Prop) : Prop :=
  NE_take (jr h0 0) h1 I (fun I_2 => (∀ I_3 : jM, I_3 = jwr I_2 h0 2 (0 : Int32) → K I_3))
set_option maxRecDepth 100000 in
set_option maxHeartbeats 4000000 in
theorem s_GO_restart {l : Launch} {E : jE} (ok : jOK E) (hE : E.2.2.2 = jLX) {h0 : Nat} {h1 : Nat} (g_h0 : jOB E 1 h0) (g_h1 : jOB E 8 h1) {I : jM} {K : jM → Prop} (h : GO_restart h0 h1 I K) : jSv l E ⟨"OutOrder$Going", "restart", "(LOutOrder$Table;)V"⟩ prog_3_method_2_code 2 none 1 22 [.ref (E.2.2.1 h0), .ref (E.2.2.1 h1)] I K := by
  refine jS_ofF (own := "OutOrder$Going") (by decide +kernel) rfl ok (Nat.le_of_ble_eq_true rfl) (fun Z _ C hr => ?_)
  show jJ Z E 2 (jQv Z E K) 0 [(0, .ref (E.2.2.1 h0)), (1, .ref (E.2.2.1 h1))] [] I
  unfold GO_restart at h
  refine j_aload_n C d_GO_restart_0 rfl 0 rfl ?_
  refine fg_GO_12 C g_h0 d_GO_restart_1 ?_
  refine j_aload_n C d_GO_restart_4 rfl 1 rfl ?_
  refine j_callVv (As := [.ref (E.2.2.1 h1)]) C jcl_NE cw_GO_22 w_301 w_302 (sh_GO_0 hE g_h0) rfl rfl (by decide) (by decide) (Nat.le_of_ble_eq_true rfl) d_GO_restart_5 (s_NE_take C.ok hE (sh_GO_0 hE g_h0) g_h1 h) (fun I_2 h => ?_)
  refine j_aload_n C d_GO_restart_8 rfl 0 rfl ?_
  refine j_iconst C d_GO_restart_9 ic_0 ?_
  refine fp_GO_26 C g_h0 d_GO_restart_10 ?_
  have h := h _ rfl
  generalize eI_3 : (jwr I_2 h0 2 (0 : Int32) : jM) = I_3 at h ⊢
  exact j_vret C hr d_GO_restart_13 h
theorem d_GO_sendOut_0 : decode prog_3_method_3_code 0 = .ok (.aload_n 0, 1) := by decide +kernel
theorem d_GO_sendOut_1 : decode prog_3_method_3_code 1 = .ok (.getfield 26, 3) := by decide +kernel
theorem d_GO_sendOut_4 : decode prog_3_method_3_code 4 = .ok (.aload_n 0, 1) := by decide +kernel
theorem d_GO_sendOut_5 : decode prog_3_method_3_code 5 = .ok (.getfield 18, 3) := by decide +kernel
theorem d_GO_sendOut_8 : decode prog_3_method_3_code 8 = .ok (.arraylength, 1) := by decide +kernel
theorem d_GO_sendOut_9 : decode prog_3_method_3_code 9 = .ok (.if_icmp .ge 31, 3) := by decide +kernel
theorem d_GO_sendOut_12 : decode prog_3_method_3_code 12 = .ok (.aload_n 0, 1) := by decide +kernel
theorem d_GO_sendOut_13 : decode prog_3_method_3_code 13 = .ok (.getfield 18, 3) := by decide +kernel
theorem d_GO_sendOut_16 : decode prog_3_method_3_code 16 = .ok (.aload_n 0, 1) := by decide +kernel
theorem d_GO_sendOut_17 : decode prog_3_method_3_code 17 = .ok (.getfield 26, 3) := by decide +kernel
theorem d_GO_sendOut_20 : decode prog_3_method_3_code 20 = .ok (.iload_n 1, 1) := by decide +kernel
theorem d_GO_sendOut_21 : decode prog_3_method_3_code 21 = .ok (.iastore, 1) := by decide +kernel
theorem d_GO_sendOut_22 : decode prog_3_method_3_code 22 = .ok (.aload_n 0, 1) := by decide +kernel
theorem d_GO_sendOut_23 : decode prog_3_method_3_code 23 = .ok (.dup, 1) := by decide +kernel
theorem d_GO_sendOut_24 : decode prog_3_method_3_code 24 = .ok (.getfield 26, 3) := by decide +kernel
theorem d_GO_sendOut_27 : decode prog_3_method_3_code 27 = .ok (.iconst 1, 1) := by decide +kernel
theorem d_GO_sendOut_28 : decode prog_3_method_3_code 28 = .ok (.iadd, 1) := by decide +kernel
theorem d_GO_sendOut_29 : decode prog_3_method_3_code 29 = .ok (.putfield 26, 3) := by decide +kernel
theorem d_GO_sendOut_32 : decode prog_3_method_3_code 32 = .ok (.aload_n 0, 1) := by decide +kernel
theorem d_GO_sendOut_33 : decode prog_3_method_3_code 33 = .ok (.getfield 12, 3) := by decide +kernel
theorem d_GO_sendOut_36 : decode prog_3_method_3_code 36 = .ok (.iload_n 1, 1) := by decide +kernel
theorem d_GO_sendOut_37 : decode prog_3_method_3_code 37 = .ok (.invokevirtual 30, 3) := by decide +kernel
theorem d_GO_sendOut_40 : decode prog_3_method_3_code 40 = .ok (.return_, 1) := by decide +kernel
/-- OutOrder$Going.sendOut(I)V -/
def GO_sendOut (h0 : Nat) (v1 : Int32) (I : jM) (K : jM → Prop) : Prop :=
  (((24 : Int32) ≤ (I h0 2) → K I) ∧ (¬ (24 : Int32) ≤ (I h0 2) → (vp_in (I h0 2) 24 ∧ (∀ I_1 : jM, I_1 = jwr I (jr h0 1) (I h0 2).toNatClampNeg v1 → (∀ I_2 : jM, I_2 = jwr I_1 h0 2 ((I_1 h0 2) + (1 : Int32)) → NE_remove (jr h0 0) v1 I_2 (fun I_4 => K I_4))))))
set_option maxRecDepth 100000 in
set_option maxHeartbeats 4000000 in
theorem s_GO_sendOut {l : Launch} {E : jE} (ok : jOK E) (hE : E.2.2.2 = jLX) {h0 : Nat} {v1 : Int32} (g_h0 : jOB E 1 h0) {I : jM} {K : jM → Prop} (h : GO_sendOut h0 v1 I K) : jSv l E ⟨"OutOrder$Going", "sendOut", "(I)V"⟩ prog_3_method_3_code 2 none 2 47 [.ref (E.2.2.1 h0), .int v1] I K := by
  refine jS_ofF (own := "OutOrder$Going") (by decide +kernel) rfl ok (Nat.le_of_ble_eq_true rfl) (fun Z _ C hr => ?_)
  show jJ Z E 2 (jQv Z E K) 0 [(0, .ref (E.2.2.1 h0)), (1, .int v1)] [] I
  unfold GO_sendOut at h
  refine j_aload_n C d_GO_sendOut_0 rfl 0 rfl ?_
  refine fg_GO_26 C g_h0 d_GO_sendOut_1 ?_
  refine j_aload_n C d_GO_sendOut_4 rfl 0 rfl ?_
  refine fg_GO_18 C g_h0 d_GO_sendOut_5 ?_
  refine j_alen C (sh_GO_1 hE g_h0) (v := (24 : Int32)) (by decide) d_GO_sendOut_8 ?_
  refine j_icmp_ge C d_GO_sendOut_9 (tgt := 40) (by decide) (fun c9 => ?_) (fun c9 => ?_)
  · have h := h.1 c9
    exact j_vret C hr d_GO_sendOut_40 h
  · have h := h.2 c9
    refine j_aload_n C d_GO_sendOut_12 rfl 0 rfl ?_
    refine fg_GO_18 C g_h0 d_GO_sendOut_13 ?_
    refine j_aload_n C d_GO_sendOut_16 rfl 0 rfl ?_
    refine fg_GO_26 C g_h0 d_GO_sendOut_17 ?_
    refine j_iload_n C d_GO_sendOut_20 rfl 1 rfl ?_
    obtain ⟨hi, h⟩ := h
    refine j_iastore C (sh_GO_1 hE g_h0) hi d_GO_sendOut_21 ?_
    have h := h _ rfl
    generalize eI_1 : (jwr I (jr h0 1) (I h0 2).toNatClampNeg v1 : jM) = I_1 at h ⊢
    refine j_aload_n C d_GO_sendOut_22 rfl 0 rfl ?_
    refine j_dup C d_GO_sendOut_23 rfl ?_
    refine fg_GO_26 C g_h0 d_GO_sendOut_24 ?_
    refine j_iconst C d_GO_sendOut_27 ic_1 ?_
    refine j_iadd C d_GO_sendOut_28 ?_
    refine fp_GO_26 C g_h0 d_GO_sendOut_29 ?_
    have h := h _ rfl
    generalize eI_2 : (jwr I_1 h0 2 ((I_1 h0 2) + (1 : Int32)) : jM) = I_2 at h ⊢
    refine j_aload_n C d_GO_sendOut_32 rfl 0 rfl ?_
    refine fg_GO_12 C g_h0 d_GO_sendOut_33 ?_
    refine j_iload_n C d_GO_sendOut_36 rfl 1 rfl ?_
    refine j_callVv (As := [.int v1]) C jcl_NE cw_GO_30 w_466 w_467 (sh_GO_0 hE g_h0) rfl rfl (by decide) (by decide) (Nat.le_of_ble_eq_true rfl) d_GO_sendOut_37 (s_NE_remove C.ok hE (sh_GO_0 hE g_h0) h) (fun I_4 h => ?_)
    exact j_vret C hr d_GO_sendOut_40 h
theorem d_GO_undo_0 : decode prog_3_method_4_code 0 = .ok (.aload_n 0, 1) := by decide +kernel
theorem d_GO_undo_1 : decode prog_3_method_4_code 1 = .ok (.getfield 26, 3) := by decide +kernel
theorem d_GO_undo_4 : decode prog_3_method_4_code 4 = .ok (.iconst 1, 1) := by decide +kernel
theorem d_GO_undo_5 : decode prog_3_method_4_code 5 = .ok (.if_icmp .ge 6, 3) := by decide +kernel
theorem d_GO_undo_8 : decode prog_3_method_4_code 8 = .ok (.bipush (-9), 2) := by decide +kernel
theorem d_GO_undo_10 : decode prog_3_method_4_code 10 = .ok (.ireturn, 1) := by decide +kernel
theorem d_GO_undo_11 : decode prog_3_method_4_code 11 = .ok (.aload_n 0, 1) := by decide +kernel
theorem d_GO_undo_12 : decode prog_3_method_4_code 12 = .ok (.dup, 1) := by decide +kernel
theorem d_GO_undo_13 : decode prog_3_method_4_code 13 = .ok (.getfield 26, 3) := by decide +kernel
theorem d_GO_undo_16 : decode prog_3_method_4_code 16 = .ok (.iconst 1, 1) := by decide +kernel
theorem d_GO_undo_17 : decode prog_3_method_4_code 17 = .ok (.isub, 1) := by decide +kernel
theorem d_GO_undo_18 : decode prog_3_method_4_code 18 = .ok (.putfield 26, 3) := by decide +kernel
theorem d_GO_undo_21 : decode prog_3_method_4_code 21 = .ok (.aload_n 0, 1) := by decide +kernel
theorem d_GO_undo_22 : decode prog_3_method_4_code 22 = .ok (.getfield 12, 3) := by decide +kernel
theorem d_GO_undo_25 : decode prog_3_method_4_code 25 = .ok (.aload_n 1, 1) := by decide +kernel
theorem d_GO_undo_26 : decode prog_3_method_4_code 26 = .ok (.invokevirtual 22, 3) := by decide +kernel
theorem d_GO_undo_29 : decode prog_3_method_4_code 29 = .ok (.iconst 0, 1) := by decide +kernel
theorem d_GO_undo_30 : decode prog_3_method_4_code 30 = .ok (.istore_n 2, 1) := by decide +kernel
theorem d_GO_undo_31 : decode prog_3_method_4_code 31 = .ok (.iload_n 2, 1) := by decide +kernel
theorem d_GO_undo_32 : decode prog_3_method_4_code 32 = .ok (.aload_n 0, 1) := by decide +kernel
theorem d_GO_undo_33 : decode prog_3_method_4_code 33 = .ok (.getfield 26, 3) := by decide +kernel
theorem d_GO_undo_36 : decode prog_3_method_4_code 36 = .ok (.if_icmp .ge 22, 3) := by decide +kernel
theorem d_GO_undo_39 : decode prog_3_method_4_code 39 = .ok (.aload_n 0, 1) := by decide +kernel
theorem d_GO_undo_40 : decode prog_3_method_4_code 40 = .ok (.getfield 12, 3) := by decide +kernel
theorem d_GO_undo_43 : decode prog_3_method_4_code 43 = .ok (.aload_n 0, 1) := by decide +kernel
theorem d_GO_undo_44 : decode prog_3_method_4_code 44 = .ok (.getfield 18, 3) := by decide +kernel
theorem d_GO_undo_47 : decode prog_3_method_4_code 47 = .ok (.iload_n 2, 1) := by decide +kernel
theorem d_GO_undo_48 : decode prog_3_method_4_code 48 = .ok (.iaload, 1) := by decide +kernel
theorem d_GO_undo_49 : decode prog_3_method_4_code 49 = .ok (.invokevirtual 30, 3) := by decide +kernel
theorem d_GO_undo_52 : decode prog_3_method_4_code 52 = .ok (.iinc 2 1, 3) := by decide +kernel
theorem d_GO_undo_55 : decode prog_3_method_4_code 55 = .ok (.goto (-24), 3) := by decide +kernel
theorem d_GO_undo_58 : decode prog_3_method_4_code 58 = .ok (.aload_n 0, 1) := by decide +kernel
theorem d_GO_undo_59 : decode prog_3_method_4_code 59 = .ok (.getfield 18, 3) := by decide +kernel
theorem d_GO_undo_62 : decode prog_3_method_4_code 62 = .ok (.aload_n 0, 1) := by decide +kernel
theorem d_GO_undo_63 : decode prog_3_method_4_code 63 = .ok (.getfield 26, 3) := by decide +kernel
theorem d_GO_undo_66 : decode prog_3_method_4_code 66 = .ok (.iaload, 1) := by decide +kernel
theorem d_GO_undo_67 : decode prog_3_method_4_code 67 = .ok (.ireturn, 1) := by decide +kernel
def GO_undo_31b (h0 : Nat) (v2 : Int32) (I : jM) (K : Int32 → jM → Prop) (X31 : Int32 × jM → Prop) : Prop :=
  (((I h0 2) ≤ v2 → (vp_in (I h0 2) 24 ∧ K (I (jr h0 1) (I h0 2).toNatClampNeg) I)) ∧ (¬ (I h0 2) ≤ v2 → (vp_in v2 24 ∧ NE_remove (jr h0 0) (I (jr h0 1) v2.toNatClampNeg) I (fun I_2 => X31 ((v2 + 1), I_2)))))
def GO_undo_31 (h0 : Nat) (v2 : Int32) (I : jM) (K : Int32 → jM → Prop) : Prop :=
  lp (fun (X31 : Int32 × jM → Prop) (s : Int32 × jM) => GO_undo_31b h0 s.1 s.2 K X31) (v2, I)
set_option maxRecDepth 100000 in
set_option maxHeartbeats 4000000 in
theorem kb_GO_undo_31 {Z : jZ} {E : jE} (C : jC Z E prog_3_method_4_code 3 "OutOrder$Going" 2 47) (hr : (jZh Z).sig.returnType = (some .int)) (hE : E.2.2.2 = jLX)  (h0 : Nat) (v2 : Int32) (I : jM) (g_h0 : jOB E 1 h0) {K : Int32 → jM → Prop} {X31 : Int32 × jM → Prop} (hX31 : ∀ s : Int32 × jM, X31 s → jJ Z E 3 (jQi Z E K) 31 [(0, .ref (E.2.2.1 h0)), (2, .int s.1)] [] s.2) (h : GO_undo_31b h0 v2 I K X31) : jJ Z E 3 (jQi Z E K) 31 [(0, .ref (E.2.2.1 h0)), (2, .int v2)] [] I := by
  unfold GO_undo_31b at h
  refine j_iload_n C d_GO_undo_31 rfl 1 rfl ?_
  refine j_aload_n C d_GO_undo_32 rfl 0 rfl ?_
  refine fg_GO_26 C g_h0 d_GO_undo_33 ?_
  refine j_icmp_ge C d_GO_undo_36 (tgt := 58) (by decide) (fun c36 => ?_) (fun c36 => ?_)
  · have h := h.1 c36
    refine j_aload_n C d_GO_undo_58 rfl 0 rfl ?_
    refine fg_GO_18 C g_h0 d_GO_undo_59 ?_
    refine j_aload_n C d_GO_undo_62 rfl 0 rfl ?_
    refine fg_GO_26 C g_h0 d_GO_undo_63 ?_
    obtain ⟨hi, h⟩ := h
    refine j_iaload C (sh_GO_1 hE g_h0) hi d_GO_undo_66 ?_
    exact j_iret C hr d_GO_undo_67 h
  · have h := h.2 c36
    refine j_aload_n C d_GO_undo_39 rfl 0 rfl ?_
    refine fg_GO_12 C g_h0 d_GO_undo_40 ?_
    refine j_aload_n C d_GO_undo_43 rfl 0 rfl ?_
    refine fg_GO_18 C g_h0 d_GO_undo_44 ?_
    refine j_iload_n C d_GO_undo_47 rfl 1 rfl ?_
    obtain ⟨hi, h⟩ := h
    refine j_iaload C (sh_GO_1 hE g_h0) hi d_GO_undo_48 ?_
    refine j_callVv (As := [.int (I (jr h0 1) v2.toNatClampNeg)]) C jcl_NE cw_GO_30 w_466 w_467 (sh_GO_0 hE g_h0) rfl rfl (by decide) (by decide) (Nat.le_of_ble_eq_true rfl) d_GO_undo_49 (s_NE_remove C.ok hE (sh_GO_0 hE g_h0) h) (fun I_2 h => ?_)
    refine j_iinc C d_GO_undo_52 1 rfl (v := (v2 + 1)) rfl (by decide) (lv' := [(2, .int (v2 + 1)), (0, .ref (E.2.2.1 h0))]) rfl ?_
    refine j_goto C d_GO_undo_55 (tgt := 31) (by decide) ?_
    refine j_lv [1, 0] rfl ?_
    exact hX31 ((v2 + 1), I_2) h
theorem k_GO_undo_31 {Z : jZ} {E : jE} (C : jC Z E prog_3_method_4_code 3 "OutOrder$Going" 2 47) (hr : (jZh Z).sig.returnType = (some .int)) (hE : E.2.2.2 = jLX)  (h0 : Nat) (v2 : Int32) (I : jM) (g_h0 : jOB E 1 h0) {K : Int32 → jM → Prop} (h : GO_undo_31 h0 v2 I K) : jJ Z E 3 (jQi Z E K) 31 [(0, .ref (E.2.2.1 h0)), (2, .int v2)] [] I := by
  unfold GO_undo_31 at h
  exact h (fun s => jJ Z E 3 (jQi Z E K) 31 [(0, .ref (E.2.2.1 h0)), (2, .int s.1)] [] s.2) (fun s hs => kb_GO_undo_31 C hr hE h0 s.1 s.2 g_h0 (fun s2 h2 => h2) hs)
/-- OutOrder$Going.undo(LOutOrder$Table;)I -/
def GO_undo (h0 : Nat) (h1 : Nat) (I : jM) (K : Int32 → jM → Prop) : Prop :=
  (((1 : Int32) ≤ (I h0 2) → (∀ I_1 : jM, I_1 = jwr I h0 2 ((I h0 2) - (1 : Int32)) → NE_take (jr h0 0) h1 I_1 (fun I_3 => GO_undo_31 h0 (0 : Int32) I_3 K))) ∧ (¬ (1 : Int32) ≤ (I h0 2) → K (-9 : Int32) I))
set_option maxRecDepth 100000 in
set_option maxHeartbeats 4000000 in
theorem s_GO_undo {l : Launch} {E : jE} (ok : jOK E) (hE : E.2.2.2 = jLX) {h0 : Nat} {h1 : Nat} (g_h0 : jOB E 1 h0) (g_h1 : jOB E 8 h1) {I : jM} {K : Int32 → jM → Prop} (h : GO_undo h0 h1 I K) : jSi l E ⟨"OutOrder$Going", "undo", "(LOutOrder$Table;)I"⟩ prog_3_method_4_code 3 (some .int) 2 47 [.ref (E.2.2.1 h0), .ref (E.2.2.1 h1)] I K := by
  refine jS_ofF (own := "OutOrder$Going") (by decide +kernel) rfl ok (Nat.le_of_ble_eq_true rfl) (fun Z _ C hr => ?_)
  show jJ Z E 3 (jQi Z E K) 0 [(0, .ref (E.2.2.1 h0)), (1, .ref (E.2.2.1 h1))] [] I
  unfold GO_undo at h
  refine j_aload_n C d_GO_undo_0 rfl 0 rfl ?_
  refine fg_GO_26 C g_h0 d_GO_undo_1 ?_
  refine j_iconst C d_GO_undo_4 ic_1 ?_
  refine j_icmp_ge C d_GO_undo_5 (tgt := 11) (by decide) (fun c5 => ?_) (fun c5 => ?_)
  · have h := h.1 c5
    refine j_aload_n C d_GO_undo_11 rfl 0 rfl ?_
    refine j_dup C d_GO_undo_12 rfl ?_
    refine fg_GO_26 C g_h0 d_GO_undo_13 ?_
    refine j_iconst C d_GO_undo_16 ic_1 ?_
    refine j_isub C d_GO_undo_17 ?_
    refine fp_GO_26 C g_h0 d_GO_undo_18 ?_
    have h := h _ rfl
    generalize eI_1 : (jwr I h0 2 ((I h0 2) - (1 : Int32)) : jM) = I_1 at h ⊢
    refine j_aload_n C d_GO_undo_21 rfl 0 rfl ?_
    refine fg_GO_12 C g_h0 d_GO_undo_22 ?_
    refine j_aload_n C d_GO_undo_25 rfl 1 rfl ?_
    refine j_callVv (As := [.ref (E.2.2.1 h1)]) C jcl_NE cw_GO_22 w_301 w_302 (sh_GO_0 hE g_h0) rfl rfl (by decide) (by decide) (Nat.le_of_ble_eq_true rfl) d_GO_undo_26 (s_NE_take C.ok hE (sh_GO_0 hE g_h0) g_h1 h) (fun I_3 h => ?_)
    refine j_iconst C d_GO_undo_29 ic_0 ?_
    refine j_istore_n C d_GO_undo_30 rfl (by decide) (lv' := [(2, .int (0 : Int32)), (0, .ref (E.2.2.1 h0)), (1, .ref (E.2.2.1 h1))]) rfl ?_
    refine j_lv [1, 0] rfl ?_
    exact k_GO_undo_31 C hr hE h0 (0 : Int32) I_3 g_h0 h
  · have h := h.2 c5
    refine j_bipush C d_GO_undo_8 ib_m9 ?_
    exact j_iret C hr d_GO_undo_10 h
