theorem d_PL_allowed_0 : decode prog_7_method_3_code 0 = .ok (.iconst 0, 1) := by decide +kernel
theorem d_PL_allowed_1 : decode prog_7_method_3_code 1 = .ok (.istore_n 3, 1) := by decide +kernel
theorem d_PL_allowed_2 : decode prog_7_method_3_code 2 = .ok (.iconst 0, 1) := by decide +kernel
theorem d_PL_allowed_3 : decode prog_7_method_3_code 3 = .ok (.istore 4, 2) := by decide +kernel
theorem d_PL_allowed_5 : decode prog_7_method_3_code 5 = .ok (.iload 4, 2) := by decide +kernel
theorem d_PL_allowed_7 : decode prog_7_method_3_code 7 = .ok (.iload_n 1, 1) := by decide +kernel
theorem d_PL_allowed_8 : decode prog_7_method_3_code 8 = .ok (.if_icmp .ge 39, 3) := by decide +kernel
theorem d_PL_allowed_11 : decode prog_7_method_3_code 11 = .ok (.iload_n 0, 1) := by decide +kernel
theorem d_PL_allowed_12 : decode prog_7_method_3_code 12 = .ok (.iload 4, 2) := by decide +kernel
theorem d_PL_allowed_14 : decode prog_7_method_3_code 14 = .ok (.ishr, 1) := by decide +kernel
theorem d_PL_allowed_15 : decode prog_7_method_3_code 15 = .ok (.iconst 1, 1) := by decide +kernel
theorem d_PL_allowed_16 : decode prog_7_method_3_code 16 = .ok (.iand, 1) := by decide +kernel
theorem d_PL_allowed_17 : decode prog_7_method_3_code 17 = .ok (.ifCond .ne 24, 3) := by decide +kernel
theorem d_PL_allowed_20 : decode prog_7_method_3_code 20 = .ok (.aload_n 2, 1) := by decide +kernel
theorem d_PL_allowed_21 : decode prog_7_method_3_code 21 = .ok (.getfield 29, 3) := by decide +kernel
theorem d_PL_allowed_24 : decode prog_7_method_3_code 24 = .ok (.iload 4, 2) := by decide +kernel
theorem d_PL_allowed_26 : decode prog_7_method_3_code 26 = .ok (.iaload, 1) := by decide +kernel
theorem d_PL_allowed_27 : decode prog_7_method_3_code 27 = .ok (.iload_n 0, 1) := by decide +kernel
theorem d_PL_allowed_28 : decode prog_7_method_3_code 28 = .ok (.iconst (-1), 1) := by decide +kernel
theorem d_PL_allowed_29 : decode prog_7_method_3_code 29 = .ok (.ixor, 1) := by decide +kernel
theorem d_PL_allowed_30 : decode prog_7_method_3_code 30 = .ok (.iand, 1) := by decide +kernel
theorem d_PL_allowed_31 : decode prog_7_method_3_code 31 = .ok (.ifCond .ne 10, 3) := by decide +kernel
theorem d_PL_allowed_34 : decode prog_7_method_3_code 34 = .ok (.iload_n 3, 1) := by decide +kernel
theorem d_PL_allowed_35 : decode prog_7_method_3_code 35 = .ok (.iconst 1, 1) := by decide +kernel
theorem d_PL_allowed_36 : decode prog_7_method_3_code 36 = .ok (.iload 4, 2) := by decide +kernel
theorem d_PL_allowed_38 : decode prog_7_method_3_code 38 = .ok (.ishl, 1) := by decide +kernel
theorem d_PL_allowed_39 : decode prog_7_method_3_code 39 = .ok (.ior, 1) := by decide +kernel
theorem d_PL_allowed_40 : decode prog_7_method_3_code 40 = .ok (.istore_n 3, 1) := by decide +kernel
theorem d_PL_allowed_41 : decode prog_7_method_3_code 41 = .ok (.iinc 4 1, 3) := by decide +kernel
theorem d_PL_allowed_44 : decode prog_7_method_3_code 44 = .ok (.goto (-39), 3) := by decide +kernel
theorem d_PL_allowed_47 : decode prog_7_method_3_code 47 = .ok (.iload_n 3, 1) := by decide +kernel
theorem d_PL_allowed_48 : decode prog_7_method_3_code 48 = .ok (.ireturn, 1) := by decide +kernel
def PL_allowed_5b (v0 : Int32) (v1 : Int32) (h2 : Nat) (v3 : Int32) (v4 : Int32) (I : jM) (K : Int32 → Prop) (X5 : Int32 × Int32 → Prop) : Prop :=
  ((v1 ≤ v4 → K v3) ∧ (¬ v1 ≤ v4 → ((¬ ((v0 >>> (v4 &&& 31)) &&& (1 : Int32)) = 0 → X5 (v3, (v4 + 1))) ∧ (((v0 >>> (v4 &&& 31)) &&& (1 : Int32)) = 0 → (vp_in v4 24 ∧ ((¬ ((I (jr h2 5) v4.toNatClampNeg) &&& (v0 ^^^ (-1 : Int32))) = 0 → X5 (v3, (v4 + 1))) ∧ (((I (jr h2 5) v4.toNatClampNeg) &&& (v0 ^^^ (-1 : Int32))) = 0 → (∀ v3_1 : Int32, v3_1 = (v3 ||| ((1 : Int32) <<< (v4 &&& 31))) → X5 (v3_1, (v4 + 1))))))))))
def PL_allowed_5 (v0 : Int32) (v1 : Int32) (h2 : Nat) (v3 : Int32) (v4 : Int32) (I : jM) (K : Int32 → Prop) : Prop :=
  lp (fun (X5 : Int32 × Int32 → Prop) (s : Int32 × Int32) => PL_allowed_5b v0 v1 h2 s.1 s.2 I K X5) (v3, v4)
set_option maxRecDepth 100000 in
set_option maxHeartbeats 4000000 in
theorem kb_PL_allowed_5 {Z : jZ} {E : jE} (C : jC Z E prog_7_method_3_code 5 "OutOrder$Plan" 0 0) (hr : (jZh Z).sig.returnType = (some .int)) (hE : E.2.2.2 = jLX)  (v0 : Int32) (v1 : Int32) (h2 : Nat) (v3 : Int32) (v4 : Int32) (I : jM) (g_h2 : jOB E 0 h2) {K : Int32 → Prop} {X5 : Int32 × Int32 → Prop} (hX5 : ∀ s : Int32 × Int32, X5 s → jJ Z E 5 (jQi Z E (fun r I2 => I = I2 ∧ K r)) 5 [(0, .int v0), (1, .int v1), (2, .ref (E.2.2.1 h2)), (3, .int s.1), (4, .int s.2)] [] I) (h : PL_allowed_5b v0 v1 h2 v3 v4 I K X5) : jJ Z E 5 (jQi Z E (fun r I2 => I = I2 ∧ K r)) 5 [(0, .int v0), (1, .int v1), (2, .ref (E.2.2.1 h2)), (3, .int v3), (4, .int v4)] [] I := by
  unfold PL_allowed_5b at h
  refine j_iload C d_PL_allowed_5 4 rfl ?_
  refine j_iload_n C d_PL_allowed_7 rfl 1 rfl ?_
  refine j_icmp_ge C d_PL_allowed_8 (tgt := 47) (by decide) (fun c8 => ?_) (fun c8 => ?_)
  · have h := h.1 c8
    refine j_iload_n C d_PL_allowed_47 rfl 3 rfl ?_
    exact j_iret C hr d_PL_allowed_48 ⟨rfl, h⟩
  · have h := h.2 c8
    refine j_iload_n C d_PL_allowed_11 rfl 0 rfl ?_
    refine j_iload C d_PL_allowed_12 4 rfl ?_
    refine j_ishr C d_PL_allowed_14 ?_
    refine j_iconst C d_PL_allowed_15 ic_1 ?_
    refine j_iand C d_PL_allowed_16 ?_
    refine j_if_ne C d_PL_allowed_17 (tgt := 41) (by decide) (fun c17 => ?_) (fun c17 => ?_)
    · have h := h.1 c17
      refine j_iinc C d_PL_allowed_41 4 rfl (v := (v4 + 1)) rfl (by decide) (lv' := [(4, .int (v4 + 1)), (0, .int v0), (1, .int v1), (2, .ref (E.2.2.1 h2)), (3, .int v3)]) rfl ?_
      refine j_goto C d_PL_allowed_44 (tgt := 5) (by decide) ?_
      refine j_lv [1, 2, 3, 4, 0] rfl ?_
      exact hX5 (v3, (v4 + 1)) h
    · have h := h.2 c17
      refine j_aload_n C d_PL_allowed_20 rfl 2 rfl ?_
      refine fg_PL_29 C g_h2 d_PL_allowed_21 ?_
      refine j_iload C d_PL_allowed_24 4 rfl ?_
      obtain ⟨hi, h⟩ := h
      refine j_iaload C (sh_FN_5 hE g_h2) hi d_PL_allowed_26 ?_
      refine j_iload_n C d_PL_allowed_27 rfl 0 rfl ?_
      refine j_iconst C d_PL_allowed_28 ic_m1 ?_
      refine j_ixor C d_PL_allowed_29 ?_
      refine j_iand C d_PL_allowed_30 ?_
      refine j_if_ne C d_PL_allowed_31 (tgt := 41) (by decide) (fun c31 => ?_) (fun c31 => ?_)
      · have h := h.1 c31
        refine j_iinc C d_PL_allowed_41 4 rfl (v := (v4 + 1)) rfl (by decide) (lv' := [(4, .int (v4 + 1)), (0, .int v0), (1, .int v1), (2, .ref (E.2.2.1 h2)), (3, .int v3)]) rfl ?_
        refine j_goto C d_PL_allowed_44 (tgt := 5) (by decide) ?_
        refine j_lv [1, 2, 3, 4, 0] rfl ?_
        exact hX5 (v3, (v4 + 1)) h
      · have h := h.2 c31
        refine j_iload_n C d_PL_allowed_34 rfl 3 rfl ?_
        refine j_iconst C d_PL_allowed_35 ic_1 ?_
        refine j_iload C d_PL_allowed_36 4 rfl ?_
        refine j_ishl C d_PL_allowed_38 ?_
        refine j_ior C d_PL_allowed_39 ?_
        refine j_topi (fun v3_1 ev3_1 => ?_)
        have h := h v3_1 ev3_1
        refine j_istore_n C d_PL_allowed_40 rfl (by decide) (lv' := [(3, .int v3_1), (0, .int v0), (1, .int v1), (2, .ref (E.2.2.1 h2)), (4, .int v4)]) rfl ?_
        refine j_iinc C d_PL_allowed_41 4 rfl (v := (v4 + 1)) rfl (by decide) (lv' := [(4, .int (v4 + 1)), (3, .int v3_1), (0, .int v0), (1, .int v1), (2, .ref (E.2.2.1 h2))]) rfl ?_
        refine j_goto C d_PL_allowed_44 (tgt := 5) (by decide) ?_
        refine j_lv [2, 3, 4, 1, 0] rfl ?_
        exact hX5 (v3_1, (v4 + 1)) h
theorem k_PL_allowed_5 {Z : jZ} {E : jE} (C : jC Z E prog_7_method_3_code 5 "OutOrder$Plan" 0 0) (hr : (jZh Z).sig.returnType = (some .int)) (hE : E.2.2.2 = jLX)  (v0 : Int32) (v1 : Int32) (h2 : Nat) (v3 : Int32) (v4 : Int32) (I : jM) (g_h2 : jOB E 0 h2) {K : Int32 → Prop} (h : PL_allowed_5 v0 v1 h2 v3 v4 I K) : jJ Z E 5 (jQi Z E (fun r I2 => I = I2 ∧ K r)) 5 [(0, .int v0), (1, .int v1), (2, .ref (E.2.2.1 h2)), (3, .int v3), (4, .int v4)] [] I := by
  unfold PL_allowed_5 at h
  exact h (fun s => jJ Z E 5 (jQi Z E (fun r I2 => I = I2 ∧ K r)) 5 [(0, .int v0), (1, .int v1), (2, .ref (E.2.2.1 h2)), (3, .int s.1), (4, .int s.2)] [] I) (fun s hs => kb_PL_allowed_5 C hr hE v0 v1 h2 s.1 s.2 I g_h2 (fun s2 h2 => h2) hs)
/-- OutOrder$Plan.allowed(IILOutOrder$FullNet;)I -/
def PL_allowed (v0 : Int32) (v1 : Int32) (h2 : Nat) (I : jM) (K : Int32 → Prop) : Prop :=
  PL_allowed_5 v0 v1 h2 (0 : Int32) (0 : Int32) I K
set_option maxRecDepth 100000 in
set_option maxHeartbeats 4000000 in
theorem s_PL_allowed {l : Launch} {E : jE} (ok : jOK E) (hE : E.2.2.2 = jLX) {v0 : Int32} {v1 : Int32} {h2 : Nat} (g_h2 : jOB E 0 h2) {I : jM} {K : Int32 → Prop} (h : PL_allowed v0 v1 h2 I K) : jSi l E ⟨"OutOrder$Plan", "allowed", "(IILOutOrder$FullNet;)I"⟩ prog_7_method_3_code 5 (some .int) 0 0 [.int v0, .int v1, .ref (E.2.2.1 h2)] I (fun r I2 => I = I2 ∧ K r) := by
  refine jS_ofF (own := "OutOrder$Plan") (by decide +kernel) rfl ok (Nat.le_of_ble_eq_true rfl) (fun Z _ C hr => ?_)
  show jJ Z E 5 (jQi Z E (fun r I2 => I = I2 ∧ K r)) 0 [(0, .int v0), (1, .int v1), (2, .ref (E.2.2.1 h2))] [] I
  unfold PL_allowed at h
  refine j_iconst C d_PL_allowed_0 ic_0 ?_
  refine j_istore_n C d_PL_allowed_1 rfl (by decide) (lv' := [(3, .int (0 : Int32)), (0, .int v0), (1, .int v1), (2, .ref (E.2.2.1 h2))]) rfl ?_
  refine j_iconst C d_PL_allowed_2 ic_0 ?_
  refine j_istore C d_PL_allowed_3 (by decide) (lv' := [(4, .int (0 : Int32)), (3, .int (0 : Int32)), (0, .int v0), (1, .int v1), (2, .ref (E.2.2.1 h2))]) rfl ?_
  refine j_lv [2, 3, 4, 1, 0] rfl ?_
  exact k_PL_allowed_5 C hr hE v0 v1 h2 (0 : Int32) (0 : Int32) I g_h2 h
theorem d_PL_highest_0 : decode prog_7_method_4_code 0 = .ok (.iconst 0, 1) := by decide +kernel
theorem d_PL_highest_1 : decode prog_7_method_4_code 1 = .ok (.istore_n 3, 1) := by decide +kernel
theorem d_PL_highest_2 : decode prog_7_method_4_code 2 = .ok (.iconst (-1), 1) := by decide +kernel
theorem d_PL_highest_3 : decode prog_7_method_4_code 3 = .ok (.istore 4, 2) := by decide +kernel
theorem d_PL_highest_5 : decode prog_7_method_4_code 5 = .ok (.iconst 0, 1) := by decide +kernel
theorem d_PL_highest_6 : decode prog_7_method_4_code 6 = .ok (.istore 5, 2) := by decide +kernel
theorem d_PL_highest_8 : decode prog_7_method_4_code 8 = .ok (.iload 5, 2) := by decide +kernel
theorem d_PL_highest_10 : decode prog_7_method_4_code 10 = .ok (.aload_n 1, 1) := by decide +kernel
theorem d_PL_highest_11 : decode prog_7_method_4_code 11 = .ok (.getfield 15, 3) := by decide +kernel
theorem d_PL_highest_14 : decode prog_7_method_4_code 14 = .ok (.if_icmp .ge 52, 3) := by decide +kernel
theorem d_PL_highest_17 : decode prog_7_method_4_code 17 = .ok (.aload_n 1, 1) := by decide +kernel
theorem d_PL_highest_18 : decode prog_7_method_4_code 18 = .ok (.getfield 34, 3) := by decide +kernel
theorem d_PL_highest_21 : decode prog_7_method_4_code 21 = .ok (.iload 5, 2) := by decide +kernel
theorem d_PL_highest_23 : decode prog_7_method_4_code 23 = .ok (.iaload, 1) := by decide +kernel
theorem d_PL_highest_24 : decode prog_7_method_4_code 24 = .ok (.istore 6, 2) := by decide +kernel
theorem d_PL_highest_26 : decode prog_7_method_4_code 26 = .ok (.iload_n 0, 1) := by decide +kernel
theorem d_PL_highest_27 : decode prog_7_method_4_code 27 = .ok (.iload 6, 2) := by decide +kernel
theorem d_PL_highest_29 : decode prog_7_method_4_code 29 = .ok (.ishr, 1) := by decide +kernel
theorem d_PL_highest_30 : decode prog_7_method_4_code 30 = .ok (.iconst 1, 1) := by decide +kernel
theorem d_PL_highest_31 : decode prog_7_method_4_code 31 = .ok (.iand, 1) := by decide +kernel
theorem d_PL_highest_32 : decode prog_7_method_4_code 32 = .ok (.iconst 1, 1) := by decide +kernel
theorem d_PL_highest_33 : decode prog_7_method_4_code 33 = .ok (.if_icmp .ne 27, 3) := by decide +kernel
theorem d_PL_highest_36 : decode prog_7_method_4_code 36 = .ok (.aload_n 2, 1) := by decide +kernel
theorem d_PL_highest_37 : decode prog_7_method_4_code 37 = .ok (.getfield 37, 3) := by decide +kernel
theorem d_PL_highest_40 : decode prog_7_method_4_code 40 = .ok (.iload 6, 2) := by decide +kernel
theorem d_PL_highest_42 : decode prog_7_method_4_code 42 = .ok (.iaload, 1) := by decide +kernel
theorem d_PL_highest_43 : decode prog_7_method_4_code 43 = .ok (.iload 4, 2) := by decide +kernel
theorem d_PL_highest_45 : decode prog_7_method_4_code 45 = .ok (.if_icmp .le 15, 3) := by decide +kernel
theorem d_PL_highest_48 : decode prog_7_method_4_code 48 = .ok (.iload 6, 2) := by decide +kernel
theorem d_PL_highest_50 : decode prog_7_method_4_code 50 = .ok (.istore_n 3, 1) := by decide +kernel
theorem d_PL_highest_51 : decode prog_7_method_4_code 51 = .ok (.aload_n 2, 1) := by decide +kernel
theorem d_PL_highest_52 : decode prog_7_method_4_code 52 = .ok (.getfield 37, 3) := by decide +kernel
theorem d_PL_highest_55 : decode prog_7_method_4_code 55 = .ok (.iload 6, 2) := by decide +kernel
theorem d_PL_highest_57 : decode prog_7_method_4_code 57 = .ok (.iaload, 1) := by decide +kernel
theorem d_PL_highest_58 : decode prog_7_method_4_code 58 = .ok (.istore 4, 2) := by decide +kernel
theorem d_PL_highest_60 : decode prog_7_method_4_code 60 = .ok (.iinc 5 1, 3) := by decide +kernel
theorem d_PL_highest_63 : decode prog_7_method_4_code 63 = .ok (.goto (-55), 3) := by decide +kernel
theorem d_PL_highest_66 : decode prog_7_method_4_code 66 = .ok (.iload_n 3, 1) := by decide +kernel
theorem d_PL_highest_67 : decode prog_7_method_4_code 67 = .ok (.ireturn, 1) := by decide +kernel
def PL_highest_8b (v0 : Int32) (h1 : Nat) (h2 : Nat) (v3 : Int32) (v4 : Int32) (v5 : Int32) (I : jM) (K : Int32 → Prop) (X8 : Int32 × Int32 × Int32 → Prop) : Prop :=
  (((I h1 2) ≤ v5 → K v3) ∧ (¬ (I h1 2) ≤ v5 → (vp_in v5 24 ∧ (∀ v6_1 : Int32, v6_1 = (I (jr h1 0) v5.toNatClampNeg) → ((¬ ((v0 >>> (v6_1 &&& 31)) &&& (1 : Int32)) = (1 : Int32) → X8 (v3, v4, (v5 + 1))) ∧ (((v0 >>> (v6_1 &&& 31)) &&& (1 : Int32)) = (1 : Int32) → (vp_in v6_1 24 ∧ (((I (jr h2 4) v6_1.toNatClampNeg) ≤ v4 → X8 (v3, v4, (v5 + 1))) ∧ (¬ (I (jr h2 4) v6_1.toNatClampNeg) ≤ v4 → (vp_in v6_1 24 ∧ (∀ v4_2 : Int32, v4_2 = (I (jr h2 4) v6_1.toNatClampNeg) → X8 (v6_1, v4_2, (v5 + 1)))))))))))))
def PL_highest_8 (v0 : Int32) (h1 : Nat) (h2 : Nat) (v3 : Int32) (v4 : Int32) (v5 : Int32) (I : jM) (K : Int32 → Prop) : Prop :=
  lp (fun (X8 : Int32 × Int32 × Int32 → Prop) (s : Int32 × Int32 × Int32) => PL_highest_8b v0 h1 h2 s.1 s.2.1 s.2.2 I K X8) (v3, v4, v5)
set_option maxRecDepth 100000 in
set_option maxHeartbeats 4000000 in
theorem kb_PL_highest_8 {Z : jZ} {E : jE} (C : jC Z E prog_7_method_4_code 7 "OutOrder$Plan" 0 0) (hr : (jZh Z).sig.returnType = (some .int)) (hE : E.2.2.2 = jLX)  (v0 : Int32) (h1 : Nat) (h2 : Nat) (v3 : Int32) (v4 : Int32) (v5 : Int32) (I : jM) (g_h1 : jOB E 6 h1) (g_h2 : jOB E 0 h2) {K : Int32 → Prop} {X8 : Int32 × Int32 × Int32 → Prop} (hX8 : ∀ s : Int32 × Int32 × Int32, X8 s → jJ Z E 7 (jQi Z E (fun r I2 => I = I2 ∧ K r)) 8 [(0, .int v0), (1, .ref (E.2.2.1 h1)), (2, .ref (E.2.2.1 h2)), (3, .int s.1), (4, .int s.2.1), (5, .int s.2.2)] [] I) (h : PL_highest_8b v0 h1 h2 v3 v4 v5 I K X8) : jJ Z E 7 (jQi Z E (fun r I2 => I = I2 ∧ K r)) 8 [(0, .int v0), (1, .ref (E.2.2.1 h1)), (2, .ref (E.2.2.1 h2)), (3, .int v3), (4, .int v4), (5, .int v5)] [] I := by
  unfold PL_highest_8b at h
  refine j_iload C d_PL_highest_8 5 rfl ?_
  refine j_aload_n C d_PL_highest_10 rfl 1 rfl ?_
  refine fg_PL_15 C g_h1 d_PL_highest_11 ?_
  refine j_icmp_ge C d_PL_highest_14 (tgt := 66) (by decide) (fun c14 => ?_) (fun c14 => ?_)
  · have h := h.1 c14
    refine j_iload_n C d_PL_highest_66 rfl 3 rfl ?_
    exact j_iret C hr d_PL_highest_67 ⟨rfl, h⟩
  · have h := h.2 c14
    refine j_aload_n C d_PL_highest_17 rfl 1 rfl ?_
    refine fg_PL_34 C g_h1 d_PL_highest_18 ?_
    refine j_iload C d_PL_highest_21 5 rfl ?_
    obtain ⟨hi, h⟩ := h
    refine j_iaload C (sh_RO_0 hE g_h1) hi d_PL_highest_23 ?_
    refine j_topi (fun v6_1 ev6_1 => ?_)
    have h := h v6_1 ev6_1
    refine j_istore C d_PL_highest_24 (by decide) (lv' := [(6, .int v6_1), (0, .int v0), (1, .ref (E.2.2.1 h1)), (2, .ref (E.2.2.1 h2)), (3, .int v3), (4, .int v4), (5, .int v5)]) rfl ?_
    refine j_iload_n C d_PL_highest_26 rfl 1 rfl ?_
    refine j_iload C d_PL_highest_27 0 rfl ?_
    refine j_ishr C d_PL_highest_29 ?_
    refine j_iconst C d_PL_highest_30 ic_1 ?_
    refine j_iand C d_PL_highest_31 ?_
    refine j_iconst C d_PL_highest_32 ic_1 ?_
    refine j_icmp_ne C d_PL_highest_33 (tgt := 60) (by decide) (fun c33 => ?_) (fun c33 => ?_)
    · have h := h.1 c33
      refine j_iinc C d_PL_highest_60 6 rfl (v := (v5 + 1)) rfl (by decide) (lv' := [(5, .int (v5 + 1)), (6, .int v6_1), (0, .int v0), (1, .ref (E.2.2.1 h1)), (2, .ref (E.2.2.1 h2)), (3, .int v3), (4, .int v4)]) rfl ?_
      refine j_goto C d_PL_highest_63 (tgt := 8) (by decide) ?_
      refine j_lv [2, 3, 4, 5, 6, 0] rfl ?_
      exact hX8 (v3, v4, (v5 + 1)) h
    · have h := h.2 c33
      refine j_aload_n C d_PL_highest_36 rfl 3 rfl ?_
      refine fg_PL_37 C g_h2 d_PL_highest_37 ?_
      refine j_iload C d_PL_highest_40 0 rfl ?_
      obtain ⟨hi, h⟩ := h
      refine j_iaload C (sh_FN_4 hE g_h2) hi d_PL_highest_42 ?_
      refine j_iload C d_PL_highest_43 5 rfl ?_
      refine j_icmp_le C d_PL_highest_45 (tgt := 60) (by decide) (fun c45 => ?_) (fun c45 => ?_)
      · have h := h.1 c45
        refine j_iinc C d_PL_highest_60 6 rfl (v := (v5 + 1)) rfl (by decide) (lv' := [(5, .int (v5 + 1)), (6, .int v6_1), (0, .int v0), (1, .ref (E.2.2.1 h1)), (2, .ref (E.2.2.1 h2)), (3, .int v3), (4, .int v4)]) rfl ?_
        refine j_goto C d_PL_highest_63 (tgt := 8) (by decide) ?_
        refine j_lv [2, 3, 4, 5, 6, 0] rfl ?_
        exact hX8 (v3, v4, (v5 + 1)) h
      · have h := h.2 c45
        refine j_iload C d_PL_highest_48 0 rfl ?_
        refine j_istore_n C d_PL_highest_50 rfl (by decide) (lv' := [(3, .int v6_1), (6, .int v6_1), (0, .int v0), (1, .ref (E.2.2.1 h1)), (2, .ref (E.2.2.1 h2)), (4, .int v4), (5, .int v5)]) rfl ?_
        refine j_aload_n C d_PL_highest_51 rfl 4 rfl ?_
        refine fg_PL_37 C g_h2 d_PL_highest_52 ?_
        refine j_iload C d_PL_highest_55 1 rfl ?_
        obtain ⟨hi, h⟩ := h
        refine j_iaload C (sh_FN_4 hE g_h2) hi d_PL_highest_57 ?_
        refine j_topi (fun v4_2 ev4_2 => ?_)
        have h := h v4_2 ev4_2
        refine j_istore C d_PL_highest_58 (by decide) (lv' := [(4, .int v4_2), (3, .int v6_1), (6, .int v6_1), (0, .int v0), (1, .ref (E.2.2.1 h1)), (2, .ref (E.2.2.1 h2)), (5, .int v5)]) rfl ?_
        refine j_iinc C d_PL_highest_60 6 rfl (v := (v5 + 1)) rfl (by decide) (lv' := [(5, .int (v5 + 1)), (4, .int v4_2), (3, .int v6_1), (6, .int v6_1), (0, .int v0), (1, .ref (E.2.2.1 h1)), (2, .ref (E.2.2.1 h2))]) rfl ?_
        refine j_goto C d_PL_highest_63 (tgt := 8) (by decide) ?_
        refine j_lv [4, 5, 6, 2, 1, 0] rfl ?_
        exact hX8 (v6_1, v4_2, (v5 + 1)) h
theorem k_PL_highest_8 {Z : jZ} {E : jE} (C : jC Z E prog_7_method_4_code 7 "OutOrder$Plan" 0 0) (hr : (jZh Z).sig.returnType = (some .int)) (hE : E.2.2.2 = jLX)  (v0 : Int32) (h1 : Nat) (h2 : Nat) (v3 : Int32) (v4 : Int32) (v5 : Int32) (I : jM) (g_h1 : jOB E 6 h1) (g_h2 : jOB E 0 h2) {K : Int32 → Prop} (h : PL_highest_8 v0 h1 h2 v3 v4 v5 I K) : jJ Z E 7 (jQi Z E (fun r I2 => I = I2 ∧ K r)) 8 [(0, .int v0), (1, .ref (E.2.2.1 h1)), (2, .ref (E.2.2.1 h2)), (3, .int v3), (4, .int v4), (5, .int v5)] [] I := by
  unfold PL_highest_8 at h
  exact h (fun s => jJ Z E 7 (jQi Z E (fun r I2 => I = I2 ∧ K r)) 8 [(0, .int v0), (1, .ref (E.2.2.1 h1)), (2, .ref (E.2.2.1 h2)), (3, .int s.1), (4, .int s.2.1), (5, .int s.2.2)] [] I) (fun s hs => kb_PL_highest_8 C hr hE v0 h1 h2 s.1 s.2.1 s.2.2 I g_h1 g_h2 (fun s2 h2 => h2) hs)
/-- OutOrder$Plan.highest(ILOutOrder$Row;LOutOrder$FullNet;)I -/
def PL_highest (v0 : Int32) (h1 : Nat) (h2 : Nat) (I : jM) (K : Int32 → Prop) : Prop :=
  PL_highest_8 v0 h1 h2 (0 : Int32) (-1 : Int32) (0 : Int32) I K
set_option maxRecDepth 100000 in
set_option maxHeartbeats 4000000 in
theorem s_PL_highest {l : Launch} {E : jE} (ok : jOK E) (hE : E.2.2.2 = jLX) {v0 : Int32} {h1 : Nat} {h2 : Nat} (g_h1 : jOB E 6 h1) (g_h2 : jOB E 0 h2) {I : jM} {K : Int32 → Prop} (h : PL_highest v0 h1 h2 I K) : jSi l E ⟨"OutOrder$Plan", "highest", "(ILOutOrder$Row;LOutOrder$FullNet;)I"⟩ prog_7_method_4_code 7 (some .int) 0 0 [.int v0, .ref (E.2.2.1 h1), .ref (E.2.2.1 h2)] I (fun r I2 => I = I2 ∧ K r) := by
  refine jS_ofF (own := "OutOrder$Plan") (by decide +kernel) rfl ok (Nat.le_of_ble_eq_true rfl) (fun Z _ C hr => ?_)
  show jJ Z E 7 (jQi Z E (fun r I2 => I = I2 ∧ K r)) 0 [(0, .int v0), (1, .ref (E.2.2.1 h1)), (2, .ref (E.2.2.1 h2))] [] I
  unfold PL_highest at h
  refine j_iconst C d_PL_highest_0 ic_0 ?_
  refine j_istore_n C d_PL_highest_1 rfl (by decide) (lv' := [(3, .int (0 : Int32)), (0, .int v0), (1, .ref (E.2.2.1 h1)), (2, .ref (E.2.2.1 h2))]) rfl ?_
  refine j_iconst C d_PL_highest_2 ic_m1 ?_
  refine j_istore C d_PL_highest_3 (by decide) (lv' := [(4, .int (-1 : Int32)), (3, .int (0 : Int32)), (0, .int v0), (1, .ref (E.2.2.1 h1)), (2, .ref (E.2.2.1 h2))]) rfl ?_
  refine j_iconst C d_PL_highest_5 ic_0 ?_
  refine j_istore C d_PL_highest_6 (by decide) (lv' := [(5, .int (0 : Int32)), (4, .int (-1 : Int32)), (3, .int (0 : Int32)), (0, .int v0), (1, .ref (E.2.2.1 h1)), (2, .ref (E.2.2.1 h2))]) rfl ?_
  refine j_lv [3, 4, 5, 2, 1, 0] rfl ?_
  exact k_PL_highest_8 C hr hE v0 h1 h2 (0 : Int32) (-1 : Int32) (0 : Int32) I g_h1 g_h2 h
theorem d_PL_reckon_0 : decode prog_7_method_2_code 0 = .ok (.iconst 1, 1) := by decide +kernel
theorem d_PL_reckon_1 : decode prog_7_method_2_code 1 = .ok (.aload_n 2, 1) := by decide +kernel
theorem d_PL_reckon_2 : decode prog_7_method_2_code 2 = .ok (.getfield 15, 3) := by decide +kernel
theorem d_PL_reckon_5 : decode prog_7_method_2_code 5 = .ok (.ishl, 1) := by decide +kernel
theorem d_PL_reckon_6 : decode prog_7_method_2_code 6 = .ok (.iconst 1, 1) := by decide +kernel
theorem d_PL_reckon_7 : decode prog_7_method_2_code 7 = .ok (.isub, 1) := by decide +kernel
theorem d_PL_reckon_8 : decode prog_7_method_2_code 8 = .ok (.istore 4, 2) := by decide +kernel
theorem d_PL_reckon_10 : decode prog_7_method_2_code 10 = .ok (.iconst 0, 1) := by decide +kernel
theorem d_PL_reckon_11 : decode prog_7_method_2_code 11 = .ok (.istore 5, 2) := by decide +kernel
theorem d_PL_reckon_13 : decode prog_7_method_2_code 13 = .ok (.iconst 0, 1) := by decide +kernel
theorem d_PL_reckon_14 : decode prog_7_method_2_code 14 = .ok (.istore 6, 2) := by decide +kernel
theorem d_PL_reckon_16 : decode prog_7_method_2_code 16 = .ok (.iload 6, 2) := by decide +kernel
theorem d_PL_reckon_18 : decode prog_7_method_2_code 18 = .ok (.aload_n 2, 1) := by decide +kernel
theorem d_PL_reckon_19 : decode prog_7_method_2_code 19 = .ok (.getfield 15, 3) := by decide +kernel
theorem d_PL_reckon_22 : decode prog_7_method_2_code 22 = .ok (.if_icmp .ge 86, 3) := by decide +kernel
theorem d_PL_reckon_25 : decode prog_7_method_2_code 25 = .ok (.iload 5, 2) := by decide +kernel
theorem d_PL_reckon_27 : decode prog_7_method_2_code 27 = .ok (.iload 4, 2) := by decide +kernel
theorem d_PL_reckon_29 : decode prog_7_method_2_code 29 = .ok (.if_icmp .eq 79, 3) := by decide +kernel
theorem d_PL_reckon_32 : decode prog_7_method_2_code 32 = .ok (.iload 5, 2) := by decide +kernel
theorem d_PL_reckon_34 : decode prog_7_method_2_code 34 = .ok (.aload_n 2, 1) := by decide +kernel
theorem d_PL_reckon_35 : decode prog_7_method_2_code 35 = .ok (.getfield 15, 3) := by decide +kernel
theorem d_PL_reckon_38 : decode prog_7_method_2_code 38 = .ok (.aload_n 3, 1) := by decide +kernel
theorem d_PL_reckon_39 : decode prog_7_method_2_code 39 = .ok (.invokestatic 21, 3) := by decide +kernel
theorem d_PL_reckon_42 : decode prog_7_method_2_code 42 = .ok (.istore 7, 2) := by decide +kernel
theorem d_PL_reckon_44 : decode prog_7_method_2_code 44 = .ok (.iconst 0, 1) := by decide +kernel
theorem d_PL_reckon_45 : decode prog_7_method_2_code 45 = .ok (.istore 8, 2) := by decide +kernel
theorem d_PL_reckon_47 : decode prog_7_method_2_code 47 = .ok (.iload 8, 2) := by decide +kernel
theorem d_PL_reckon_49 : decode prog_7_method_2_code 49 = .ok (.iload_n 1, 1) := by decide +kernel
theorem d_PL_reckon_50 : decode prog_7_method_2_code 50 = .ok (.if_icmp .ge 52, 3) := by decide +kernel
theorem d_PL_reckon_53 : decode prog_7_method_2_code 53 = .ok (.iload 7, 2) := by decide +kernel
theorem d_PL_reckon_55 : decode prog_7_method_2_code 55 = .ok (.ifCond .eq 47, 3) := by decide +kernel
theorem d_PL_reckon_58 : decode prog_7_method_2_code 58 = .ok (.iload 7, 2) := by decide +kernel
theorem d_PL_reckon_60 : decode prog_7_method_2_code 60 = .ok (.aload_n 2, 1) := by decide +kernel
theorem d_PL_reckon_61 : decode prog_7_method_2_code 61 = .ok (.aload_n 3, 1) := by decide +kernel
theorem d_PL_reckon_62 : decode prog_7_method_2_code 62 = .ok (.invokestatic 25, 3) := by decide +kernel
theorem d_PL_reckon_65 : decode prog_7_method_2_code 65 = .ok (.istore 9, 2) := by decide +kernel
theorem d_PL_reckon_67 : decode prog_7_method_2_code 67 = .ok (.aload_n 0, 1) := by decide +kernel
theorem d_PL_reckon_68 : decode prog_7_method_2_code 68 = .ok (.getfield 9, 3) := by decide +kernel
theorem d_PL_reckon_71 : decode prog_7_method_2_code 71 = .ok (.iload 9, 2) := by decide +kernel
theorem d_PL_reckon_73 : decode prog_7_method_2_code 73 = .ok (.iload 6, 2) := by decide +kernel
theorem d_PL_reckon_75 : decode prog_7_method_2_code 75 = .ok (.iastore, 1) := by decide +kernel
theorem d_PL_reckon_76 : decode prog_7_method_2_code 76 = .ok (.iload 7, 2) := by decide +kernel
theorem d_PL_reckon_78 : decode prog_7_method_2_code 78 = .ok (.iconst 1, 1) := by decide +kernel
theorem d_PL_reckon_79 : decode prog_7_method_2_code 79 = .ok (.iload 9, 2) := by decide +kernel
theorem d_PL_reckon_81 : decode prog_7_method_2_code 81 = .ok (.ishl, 1) := by decide +kernel
theorem d_PL_reckon_82 : decode prog_7_method_2_code 82 = .ok (.iconst (-1), 1) := by decide +kernel
theorem d_PL_reckon_83 : decode prog_7_method_2_code 83 = .ok (.ixor, 1) := by decide +kernel
theorem d_PL_reckon_84 : decode prog_7_method_2_code 84 = .ok (.iand, 1) := by decide +kernel
theorem d_PL_reckon_85 : decode prog_7_method_2_code 85 = .ok (.istore 7, 2) := by decide +kernel
theorem d_PL_reckon_87 : decode prog_7_method_2_code 87 = .ok (.iload 5, 2) := by decide +kernel
theorem d_PL_reckon_89 : decode prog_7_method_2_code 89 = .ok (.iconst 1, 1) := by decide +kernel
theorem d_PL_reckon_90 : decode prog_7_method_2_code 90 = .ok (.iload 9, 2) := by decide +kernel
theorem d_PL_reckon_92 : decode prog_7_method_2_code 92 = .ok (.ishl, 1) := by decide +kernel
theorem d_PL_reckon_93 : decode prog_7_method_2_code 93 = .ok (.ior, 1) := by decide +kernel
theorem d_PL_reckon_94 : decode prog_7_method_2_code 94 = .ok (.istore 5, 2) := by decide +kernel
theorem d_PL_reckon_96 : decode prog_7_method_2_code 96 = .ok (.iinc 8 1, 3) := by decide +kernel
theorem d_PL_reckon_99 : decode prog_7_method_2_code 99 = .ok (.goto (-52), 3) := by decide +kernel
theorem d_PL_reckon_102 : decode prog_7_method_2_code 102 = .ok (.iinc 6 1, 3) := by decide +kernel
theorem d_PL_reckon_105 : decode prog_7_method_2_code 105 = .ok (.goto (-89), 3) := by decide +kernel
theorem d_PL_reckon_108 : decode prog_7_method_2_code 108 = .ok (.iload 6, 2) := by decide +kernel
theorem d_PL_reckon_110 : decode prog_7_method_2_code 110 = .ok (.ireturn, 1) := by decide +kernel
def PL_reckon_47b (h0 : Nat) (v1 : Int32) (h2 : Nat) (h3 : Nat) (v4 : Int32) (v5 : Int32) (v6 : Int32) (v7 : Int32) (v8 : Int32) (I : jM) (K : Int32 → jM → Prop) (X16 : Int32 × Int32 × jM → Prop) (X47 : Int32 × Int32 × Int32 × jM → Prop) : Prop :=
  ((v1 ≤ v8 → X16 (v5, (v6 + 1), I)) ∧ (¬ v1 ≤ v8 → ((v7 = 0 → X16 (v5, (v6 + 1), I)) ∧ (¬ v7 = 0 → PL_highest v7 h2 h3 I (fun r_1 => (vp_in r_1 24 ∧ (∀ I_2 : jM, I_2 = jwr I (jr h0 0) r_1.toNatClampNeg v6 → (∀ v7_3 : Int32, v7_3 = (v7 &&& (((1 : Int32) <<< (r_1 &&& 31)) ^^^ (-1 : Int32))) → (∀ v5_4 : Int32, v5_4 = (v5 ||| ((1 : Int32) <<< (r_1 &&& 31))) → X47 (v5_4, v7_3, (v8 + 1), I_2))))))))))
def PL_reckon_47 (h0 : Nat) (v1 : Int32) (h2 : Nat) (h3 : Nat) (v4 : Int32) (v5 : Int32) (v6 : Int32) (v7 : Int32) (v8 : Int32) (I : jM) (K : Int32 → jM → Prop) (X16 : Int32 × Int32 × jM → Prop) : Prop :=
  lp (fun (X47 : Int32 × Int32 × Int32 × jM → Prop) (s : Int32 × Int32 × Int32 × jM) => PL_reckon_47b h0 v1 h2 h3 v4 s.1 v6 s.2.1 s.2.2.1 s.2.2.2 K X16 X47) (v5, v7, v8, I)
set_option maxRecDepth 100000 in
set_option maxHeartbeats 4000000 in
theorem kb_PL_reckon_47 {Z : jZ} {E : jE} (C : jC Z E prog_7_method_2_code 10 "OutOrder$Plan" 1 26) (hr : (jZh Z).sig.returnType = (some .int)) (hE : E.2.2.2 = jLX)  (h0 : Nat) (v1 : Int32) (h2 : Nat) (h3 : Nat) (v4 : Int32) (v5 : Int32) (v6 : Int32) (v7 : Int32) (v8 : Int32) (I : jM) (g_h0 : jOB E 5 h0) (g_h2 : jOB E 6 h2) (g_h3 : jOB E 0 h3) {K : Int32 → jM → Prop} {X16 : Int32 × Int32 × jM → Prop} (hX16 : ∀ s : Int32 × Int32 × jM, X16 s → jJ Z E 10 (jQi Z E K) 16 [(0, .ref (E.2.2.1 h0)), (1, .int v1), (2, .ref (E.2.2.1 h2)), (3, .ref (E.2.2.1 h3)), (4, .int v4), (5, .int s.1), (6, .int s.2.1)] [] s.2.2) {X47 : Int32 × Int32 × Int32 × jM → Prop} (hX47 : ∀ s : Int32 × Int32 × Int32 × jM, X47 s → jJ Z E 10 (jQi Z E K) 47 [(0, .ref (E.2.2.1 h0)), (1, .int v1), (2, .ref (E.2.2.1 h2)), (3, .ref (E.2.2.1 h3)), (4, .int v4), (5, .int s.1), (6, .int v6), (7, .int s.2.1), (8, .int s.2.2.1)] [] s.2.2.2) (h : PL_reckon_47b h0 v1 h2 h3 v4 v5 v6 v7 v8 I K X16 X47) : jJ Z E 10 (jQi Z E K) 47 [(0, .ref (E.2.2.1 h0)), (1, .int v1), (2, .ref (E.2.2.1 h2)), (3, .ref (E.2.2.1 h3)), (4, .int v4), (5, .int v5), (6, .int v6), (7, .int v7), (8, .int v8)] [] I := by
  unfold PL_reckon_47b at h
  refine j_iload C d_PL_reckon_47 8 rfl ?_
  refine j_iload_n C d_PL_reckon_49 rfl 1 rfl ?_
  refine j_icmp_ge C d_PL_reckon_50 (tgt := 102) (by decide) (fun c50 => ?_) (fun c50 => ?_)
  · have h := h.1 c50
    refine j_iinc C d_PL_reckon_102 6 rfl (v := (v6 + 1)) rfl (by decide) (lv' := [(6, .int (v6 + 1)), (0, .ref (E.2.2.1 h0)), (1, .int v1), (2, .ref (E.2.2.1 h2)), (3, .ref (E.2.2.1 h3)), (4, .int v4), (5, .int v5), (7, .int v7), (8, .int v8)]) rfl ?_
    refine j_goto C d_PL_reckon_105 (tgt := 16) (by decide) ?_
    refine j_lv [1, 2, 3, 4, 5, 6, 0] rfl ?_
    exact hX16 (v5, (v6 + 1), I) h
  · have h := h.2 c50
    refine j_iload C d_PL_reckon_53 7 rfl ?_
    refine j_if_eq C d_PL_reckon_55 (tgt := 102) (by decide) (fun c55 => ?_) (fun c55 => ?_)
    · have h := h.1 c55
      refine j_iinc C d_PL_reckon_102 6 rfl (v := (v6 + 1)) rfl (by decide) (lv' := [(6, .int (v6 + 1)), (0, .ref (E.2.2.1 h0)), (1, .int v1), (2, .ref (E.2.2.1 h2)), (3, .ref (E.2.2.1 h3)), (4, .int v4), (5, .int v5), (7, .int v7), (8, .int v8)]) rfl ?_
      refine j_goto C d_PL_reckon_105 (tgt := 16) (by decide) ?_
      refine j_lv [1, 2, 3, 4, 5, 6, 0] rfl ?_
      exact hX16 (v5, (v6 + 1), I) h
    · have h := h.2 c55
      refine j_iload C d_PL_reckon_58 7 rfl ?_
      refine j_aload_n C d_PL_reckon_60 rfl 2 rfl ?_
      refine j_aload_n C d_PL_reckon_61 rfl 3 rfl ?_
      refine j_callSi (As := [.int v7, .ref (E.2.2.1 h2), .ref (E.2.2.1 h3)]) C cw_PL_25 w_709 rfl rfl (by decide) (by decide) (Nat.le_of_ble_eq_true rfl) d_PL_reckon_62 (s_PL_highest C.ok hE g_h2 g_h3 h) (fun r_1 I2 h => ?_)
      obtain ⟨rfl, h⟩ := h
      refine j_istore C d_PL_reckon_65 (by decide) (lv' := [(9, .int r_1), (0, .ref (E.2.2.1 h0)), (1, .int v1), (2, .ref (E.2.2.1 h2)), (3, .ref (E.2.2.1 h3)), (4, .int v4), (5, .int v5), (6, .int v6), (7, .int v7), (8, .int v8)]) rfl ?_
      refine j_aload_n C d_PL_reckon_67 rfl 1 rfl ?_
      refine fg_PL_9 C g_h0 d_PL_reckon_68 ?_
      refine j_iload C d_PL_reckon_71 0 rfl ?_
      refine j_iload C d_PL_reckon_73 7 rfl ?_
      obtain ⟨hi, h⟩ := h
      refine j_iastore C (sh_PL_0 hE g_h0) hi d_PL_reckon_75 ?_
      have h := h _ rfl
      generalize eI_2 : (jwr I (jr h0 0) r_1.toNatClampNeg v6 : jM) = I_2 at h ⊢
      refine j_iload C d_PL_reckon_76 8 rfl ?_
      refine j_iconst C d_PL_reckon_78 ic_1 ?_
      refine j_iload C d_PL_reckon_79 0 rfl ?_
      refine j_ishl C d_PL_reckon_81 ?_
      refine j_iconst C d_PL_reckon_82 ic_m1 ?_
      refine j_ixor C d_PL_reckon_83 ?_
      refine j_iand C d_PL_reckon_84 ?_
      refine j_topi (fun v7_3 ev7_3 => ?_)
      have h := h v7_3 ev7_3
      refine j_istore C d_PL_reckon_85 (by decide) (lv' := [(7, .int v7_3), (9, .int r_1), (0, .ref (E.2.2.1 h0)), (1, .int v1), (2, .ref (E.2.2.1 h2)), (3, .ref (E.2.2.1 h3)), (4, .int v4), (5, .int v5), (6, .int v6), (8, .int v8)]) rfl ?_
      refine j_iload C d_PL_reckon_87 7 rfl ?_
      refine j_iconst C d_PL_reckon_89 ic_1 ?_
      refine j_iload C d_PL_reckon_90 1 rfl ?_
      refine j_ishl C d_PL_reckon_92 ?_
      refine j_ior C d_PL_reckon_93 ?_
      refine j_topi (fun v5_4 ev5_4 => ?_)
      have h := h v5_4 ev5_4
      refine j_istore C d_PL_reckon_94 (by decide) (lv' := [(5, .int v5_4), (7, .int v7_3), (9, .int r_1), (0, .ref (E.2.2.1 h0)), (1, .int v1), (2, .ref (E.2.2.1 h2)), (3, .ref (E.2.2.1 h3)), (4, .int v4), (6, .int v6), (8, .int v8)]) rfl ?_
      refine j_iinc C d_PL_reckon_96 9 rfl (v := (v8 + 1)) rfl (by decide) (lv' := [(8, .int (v8 + 1)), (5, .int v5_4), (7, .int v7_3), (9, .int r_1), (0, .ref (E.2.2.1 h0)), (1, .int v1), (2, .ref (E.2.2.1 h2)), (3, .ref (E.2.2.1 h3)), (4, .int v4), (6, .int v6)]) rfl ?_
      refine j_goto C d_PL_reckon_99 (tgt := 47) (by decide) ?_
      refine j_lv [4, 5, 6, 7, 8, 1, 9, 2, 0] rfl ?_
      exact hX47 (v5_4, v7_3, (v8 + 1), I_2) h
theorem k_PL_reckon_47 {Z : jZ} {E : jE} (C : jC Z E prog_7_method_2_code 10 "OutOrder$Plan" 1 26) (hr : (jZh Z).sig.returnType = (some .int)) (hE : E.2.2.2 = jLX)  (h0 : Nat) (v1 : Int32) (h2 : Nat) (h3 : Nat) (v4 : Int32) (v5 : Int32) (v6 : Int32) (v7 : Int32) (v8 : Int32) (I : jM) (g_h0 : jOB E 5 h0) (g_h2 : jOB E 6 h2) (g_h3 : jOB E 0 h3) {K : Int32 → jM → Prop} {X16 : Int32 × Int32 × jM → Prop} (hX16 : ∀ s : Int32 × Int32 × jM, X16 s → jJ Z E 10 (jQi Z E K) 16 [(0, .ref (E.2.2.1 h0)), (1, .int v1), (2, .ref (E.2.2.1 h2)), (3, .ref (E.2.2.1 h3)), (4, .int v4), (5, .int s.1), (6, .int s.2.1)] [] s.2.2) (h : PL_reckon_47 h0 v1 h2 h3 v4 v5 v6 v7 v8 I K X16) : jJ Z E 10 (jQi Z E K) 47 [(0, .ref (E.2.2.1 h0)), (1, .int v1), (2, .ref (E.2.2.1 h2)), (3, .ref (E.2.2.1 h3)), (4, .int v4), (5, .int v5), (6, .int v6), (7, .int v7), (8, .int v8)] [] I := by
  unfold PL_reckon_47 at h
  exact h (fun s => jJ Z E 10 (jQi Z E K) 47 [(0, .ref (E.2.2.1 h0)), (1, .int v1), (2, .ref (E.2.2.1 h2)), (3, .ref (E.2.2.1 h3)), (4, .int v4), (5, .int s.1), (6, .int v6), (7, .int s.2.1), (8, .int s.2.2.1)] [] s.2.2.2) (fun s hs => kb_PL_reckon_47 C hr hE h0 v1 h2 h3 v4 s.1 v6 s.2.1 s.2.2.1 s.2.2.2 g_h0 g_h2 g_h3 hX16 (fun s2 h2 => h2) hs)
def PL_reckon_16b (h0 : Nat) (v1 : Int32) (h2 : Nat) (h3 : Nat) (v4 : Int32) (v5 : Int32) (v6 : Int32) (I : jM) (K : Int32 → jM → Prop) (X16 : Int32 × Int32 × jM → Prop) : Prop :=
  (((I h2 2) ≤ v6 → K v6 I) ∧ (¬ (I h2 2) ≤ v6 → ((v5 = v4 → K v6 I) ∧ (¬ v5 = v4 → PL_allowed v5 (I h2 2) h3 I (fun r_1 => PL_reckon_47 h0 v1 h2 h3 v4 v5 v6 r_1 (0 : Int32) I K X16)))))
def PL_reckon_16 (h0 : Nat) (v1 : Int32) (h2 : Nat) (h3 : Nat) (v4 : Int32) (v5 : Int32) (v6 : Int32) (I : jM) (K : Int32 → jM → Prop) : Prop :=
  lp (fun (X16 : Int32 × Int32 × jM → Prop) (s : Int32 × Int32 × jM) => PL_reckon_16b h0 v1 h2 h3 v4 s.1 s.2.1 s.2.2 K X16) (v5, v6, I)
set_option maxRecDepth 100000 in
set_option maxHeartbeats 4000000 in
theorem kb_PL_reckon_16 {Z : jZ} {E : jE} (C : jC Z E prog_7_method_2_code 10 "OutOrder$Plan" 1 26) (hr : (jZh Z).sig.returnType = (some .int)) (hE : E.2.2.2 = jLX)  (h0 : Nat) (v1 : Int32) (h2 : Nat) (h3 : Nat) (v4 : Int32) (v5 : Int32) (v6 : Int32) (I : jM) (g_h0 : jOB E 5 h0) (g_h2 : jOB E 6 h2) (g_h3 : jOB E 0 h3) {K : Int32 → jM → Prop} {X16 : Int32 × Int32 × jM → Prop} (hX16 : ∀ s : Int32 × Int32 × jM, X16 s → jJ Z E 10 (jQi Z E K) 16 [(0, .ref (E.2.2.1 h0)), (1, .int v1), (2, .ref (E.2.2.1 h2)), (3, .ref (E.2.2.1 h3)), (4, .int v4), (5, .int s.1), (6, .int s.2.1)] [] s.2.2) (h : PL_reckon_16b h0 v1 h2 h3 v4 v5 v6 I K X16) : jJ Z E 10 (jQi Z E K) 16 [(0, .ref (E.2.2.1 h0)), (1, .int v1), (2, .ref (E.2.2.1 h2)), (3, .ref (E.2.2.1 h3)), (4, .int v4), (5, .int v5), (6, .int v6)] [] I := by
  unfold PL_reckon_16b at h
  refine j_iload C d_PL_reckon_16 6 rfl ?_
  refine j_aload_n C d_PL_reckon_18 rfl 2 rfl ?_
  refine fg_PL_15 C g_h2 d_PL_reckon_19 ?_
  refine j_icmp_ge C d_PL_reckon_22 (tgt := 108) (by decide) (fun c22 => ?_) (fun c22 => ?_)
  · have h := h.1 c22
    refine j_iload C d_PL_reckon_108 6 rfl ?_
    exact j_iret C hr d_PL_reckon_110 h
  · have h := h.2 c22
    refine j_iload C d_PL_reckon_25 5 rfl ?_
    refine j_iload C d_PL_reckon_27 4 rfl ?_
    refine j_icmp_eq C d_PL_reckon_29 (tgt := 108) (by decide) (fun c29 => ?_) (fun c29 => ?_)
    · have h := h.1 c29
      refine j_iload C d_PL_reckon_108 6 rfl ?_
      exact j_iret C hr d_PL_reckon_110 h
    · have h := h.2 c29
      refine j_iload C d_PL_reckon_32 5 rfl ?_
      refine j_aload_n C d_PL_reckon_34 rfl 2 rfl ?_
      refine fg_PL_15 C g_h2 d_PL_reckon_35 ?_
      refine j_aload_n C d_PL_reckon_38 rfl 3 rfl ?_
      refine j_callSi (As := [.int v5, .int (I h2 2), .ref (E.2.2.1 h3)]) C cw_PL_21 w_706 rfl rfl (by decide) (by decide) (Nat.le_of_ble_eq_true rfl) d_PL_reckon_39 (s_PL_allowed C.ok hE g_h3 h) (fun r_1 I2 h => ?_)
      obtain ⟨rfl, h⟩ := h
      refine j_istore C d_PL_reckon_42 (by decide) (lv' := [(7, .int r_1), (0, .ref (E.2.2.1 h0)), (1, .int v1), (2, .ref (E.2.2.1 h2)), (3, .ref (E.2.2.1 h3)), (4, .int v4), (5, .int v5), (6, .int v6)]) rfl ?_
      refine j_iconst C d_PL_reckon_44 ic_0 ?_
      refine j_istore C d_PL_reckon_45 (by decide) (lv' := [(8, .int (0 : Int32)), (7, .int r_1), (0, .ref (E.2.2.1 h0)), (1, .int v1), (2, .ref (E.2.2.1 h2)), (3, .ref (E.2.2.1 h3)), (4, .int v4), (5, .int v5), (6, .int v6)]) rfl ?_
      refine j_lv [2, 3, 4, 5, 6, 7, 8, 1, 0] rfl ?_
      exact k_PL_reckon_47 C hr hE h0 v1 h2 h3 v4 v5 v6 r_1 (0 : Int32) I g_h0 g_h2 g_h3 hX16 h
theorem k_PL_reckon_16 {Z : jZ} {E : jE} (C : jC Z E prog_7_method_2_code 10 "OutOrder$Plan" 1 26) (hr : (jZh Z).sig.returnType = (some .int)) (hE : E.2.2.2 = jLX)  (h0 : Nat) (v1 : Int32) (h2 : Nat) (h3 : Nat) (v4 : Int32) (v5 : Int32) (v6 : Int32) (I : jM) (g_h0 : jOB E 5 h0) (g_h2 : jOB E 6 h2) (g_h3 : jOB E 0 h3) {K : Int32 → jM → Prop} (h : PL_reckon_16 h0 v1 h2 h3 v4 v5 v6 I K) : jJ Z E 10 (jQi Z E K) 16 [(0, .ref (E.2.2.1 h0)), (1, .int v1), (2, .ref (E.2.2.1 h2)), (3, .ref (E.2.2.1 h3)), (4, .int v4), (5, .int v5), (6, .int v6)] [] I := by
  unfold PL_reckon_16 at h
  exact h (fun s => jJ Z E 10 (jQi Z E K) 16 [(0, .ref (E.2.2.1 h0)), (1, .int v1), (2, .ref (E.2.2.1 h2)), (3, .ref (E.2.2.1 h3)), (4, .int v4), (5, .int s.1), (6, .int s.2.1)] [] s.2.2) (fun s hs => kb_PL_reckon_16 C hr hE h0 v1 h2 h3 v4 s.1 s.2.1 s.2.2 g_h0 g_h2 g_h3 (fun s2 h2 => h2) hs)
/-- OutOrder$Plan.reckon(ILOutOrder$Row;LOutOrder$FullNet;)I -/
def PL_reckon (h0 : Nat) (v1 : Int32) (h2 : Nat) (h3 : Nat) (I : jM) (K : Int32 → jM → Prop) : Prop :=
  (∀ v4_1 : Int32, v4_1 = (((1 : Int32) <<< ((I h2 2) &&& 31)) - (1 : Int32)) → PL_reckon_16 h0 v1 h2 h3 v4_1 (0 : Int32) (0 : Int32) I K)
set_option maxRecDepth 100000 in
set_option maxHeartbeats 4000000 in
theorem s_PL_reckon {l : Launch} {E : jE} (ok : jOK E) (hE : E.2.2.2 = jLX) {h0 : Nat} {v1 : Int32} {h2 : Nat} {h3 : Nat} (g_h0 : jOB E 5 h0) (g_h2 : jOB E 6 h2) (g_h3 : jOB E 0 h3) {I : jM} {K : Int32 → jM → Prop} (h : PL_reckon h0 v1 h2 h3 I K) : jSi l E ⟨"OutOrder$Plan", "reckon", "(ILOutOrder$Row;LOutOrder$FullNet;)I"⟩ prog_7_method_2_code 10 (some .int) 1 26 [.ref (E.2.2.1 h0), .int v1, .ref (E.2.2.1 h2), .ref (E.2.2.1 h3)] I K := by
  refine jS_ofF (own := "OutOrder$Plan") (by decide +kernel) rfl ok (Nat.le_of_ble_eq_true rfl) (fun Z _ C hr => ?_)
  show jJ Z E 10 (jQi Z E K) 0 [(0, .ref (E.2.2.1 h0)), (1, .int v1), (2, .ref (E.2.2.1 h2)), (3, .ref (E.2.2.1 h3))] [] I
  unfold PL_reckon at h
  refine j_iconst C d_PL_reckon_0 ic_1 ?_
  refine j_aload_n C d_PL_reckon_1 rfl 2 rfl ?_
  refine fg_PL_15 C g_h2 d_PL_reckon_2 ?_
  refine j_ishl C d_PL_reckon_5 ?_
  refine j_iconst C d_PL_reckon_6 ic_1 ?_
  refine j_isub C d_PL_reckon_7 ?_
  refine j_topi (fun v4_1 ev4_1 => ?_)
  have h := h v4_1 ev4_1
  refine j_istore C d_PL_reckon_8 (by decide) (lv' := [(4, .int v4_1), (0, .ref (E.2.2.1 h0)), (1, .int v1), (2, .ref (E.2.2.1 h2)), (3, .ref (E.2.2.1 h3))]) rfl ?_
  refine j_iconst C d_PL_reckon_10 ic_0 ?_
  refine j_istore C d_PL_reckon_11 (by decide) (lv' := [(5, .int (0 : Int32)), (4, .int v4_1), (0, .ref (E.2.2.1 h0)), (1, .int v1), (2, .ref (E.2.2.1 h2)), (3, .ref (E.2.2.1 h3))]) rfl ?_
  refine j_iconst C d_PL_reckon_13 ic_0 ?_
  refine j_istore C d_PL_reckon_14 (by decide) (lv' := [(6, .int (0 : Int32)), (5, .int (0 : Int32)), (4, .int v4_1), (0, .ref (E.2.2.1 h0)), (1, .int v1), (2, .ref (E.2.2.1 h2)), (3, .ref (E.2.2.1 h3))]) rfl ?_
  refine j_lv [3, 4, 5, 6, 2, 1, 0] rfl ?_
  exact k_PL_reckon_16 C hr hE h0 v1 h2 h3 v4_1 (0 : Int32) (0 : Int32) I g_h0 g_h2 g_h3 h
