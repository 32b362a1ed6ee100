theorem d_FN_firstOf_0 : decode prog_2_method_5_code 0 = .ok (.iconst 0, 1) := by decide +kernel
theorem d_FN_firstOf_1 : decode prog_2_method_5_code 1 = .ok (.istore_n 2, 1) := by decide +kernel
theorem d_FN_firstOf_2 : decode prog_2_method_5_code 2 = .ok (.iload_n 2, 1) := by decide +kernel
theorem d_FN_firstOf_3 : decode prog_2_method_5_code 3 = .ok (.aload_n 1, 1) := by decide +kernel
theorem d_FN_firstOf_4 : decode prog_2_method_5_code 4 = .ok (.getfield 48, 3) := by decide +kernel
theorem d_FN_firstOf_7 : decode prog_2_method_5_code 7 = .ok (.if_icmp .ge 30, 3) := by decide +kernel
theorem d_FN_firstOf_10 : decode prog_2_method_5_code 10 = .ok (.iload_n 0, 1) := by decide +kernel
theorem d_FN_firstOf_11 : decode prog_2_method_5_code 11 = .ok (.aload_n 1, 1) := by decide +kernel
theorem d_FN_firstOf_12 : decode prog_2_method_5_code 12 = .ok (.getfield 53, 3) := by decide +kernel
theorem d_FN_firstOf_15 : decode prog_2_method_5_code 15 = .ok (.iload_n 2, 1) := by decide +kernel
theorem d_FN_firstOf_16 : decode prog_2_method_5_code 16 = .ok (.iaload, 1) := by decide +kernel
theorem d_FN_firstOf_17 : decode prog_2_method_5_code 17 = .ok (.ishr, 1) := by decide +kernel
theorem d_FN_firstOf_18 : decode prog_2_method_5_code 18 = .ok (.iconst 1, 1) := by decide +kernel
theorem d_FN_firstOf_19 : decode prog_2_method_5_code 19 = .ok (.iand, 1) := by decide +kernel
theorem d_FN_firstOf_20 : decode prog_2_method_5_code 20 = .ok (.iconst 1, 1) := by decide +kernel
theorem d_FN_firstOf_21 : decode prog_2_method_5_code 21 = .ok (.if_icmp .ne 10, 3) := by decide +kernel
theorem d_FN_firstOf_24 : decode prog_2_method_5_code 24 = .ok (.aload_n 1, 1) := by decide +kernel
theorem d_FN_firstOf_25 : decode prog_2_method_5_code 25 = .ok (.getfield 53, 3) := by decide +kernel
theorem d_FN_firstOf_28 : decode prog_2_method_5_code 28 = .ok (.iload_n 2, 1) := by decide +kernel
theorem d_FN_firstOf_29 : decode prog_2_method_5_code 29 = .ok (.iaload, 1) := by decide +kernel
theorem d_FN_firstOf_30 : decode prog_2_method_5_code 30 = .ok (.ireturn, 1) := by decide +kernel
theorem d_FN_firstOf_31 : decode prog_2_method_5_code 31 = .ok (.iinc 2 1, 3) := by decide +kernel
theorem d_FN_firstOf_34 : decode prog_2_method_5_code 34 = .ok (.goto (-32), 3) := by decide +kernel
theorem d_FN_firstOf_37 : decode prog_2_method_5_code 37 = .ok (.bipush (-9), 2) := by decide +kernel
theorem d_FN_firstOf_39 : decode prog_2_method_5_code 39 = .ok (.ireturn, 1) := by decide +kernel
def FN_firstOf_2b (v0 : Int32) (h1 : Nat) (v2 : Int32) (I : jM) (K : Int32 → Prop) (X2 : Int32 → Prop) : Prop :=
  (((I h1 2) ≤ v2 → K (-9 : Int32)) ∧ (¬ (I h1 2) ≤ v2 → (vp_in v2 24 ∧ ((¬ ((v0 >>> ((I (jr h1 0) v2.toNatClampNeg) &&& 31)) &&& (1 : Int32)) = (1 : Int32) → X2 (v2 + 1)) ∧ (((v0 >>> ((I (jr h1 0) v2.toNatClampNeg) &&& 31)) &&& (1 : Int32)) = (1 : Int32) → (vp_in v2 24 ∧ K (I (jr h1 0) v2.toNatClampNeg)))))))
def FN_firstOf_2 (v0 : Int32) (h1 : Nat) (v2 : Int32) (I : jM) (K : Int32 → Prop) : Prop :=
  lp (fun (X2 : Int32 → Prop) (s : Int32) => FN_firstOf_2b v0 h1 s I K X2) v2
set_option maxRecDepth 100000 in
set_option maxHeartbeats 4000000 in
theorem kb_FN_firstOf_2 {Z : jZ} {E : jE} (C : jC Z E prog_2_method_5_code 3 "OutOrder$FullNet" 0 0) (hr : (jZh Z).sig.returnType = (some .int)) (hE : E.2.2.2 = jLX)  (v0 : Int32) (h1 : Nat) (v2 : Int32) (I : jM) (g_h1 : jOB E 6 h1) {K : Int32 → Prop} {X2 : Int32 → Prop} (hX2 : ∀ s : Int32, X2 s → jJ Z E 3 (jQi Z E (fun r I2 => I = I2 ∧ K r)) 2 [(0, .int v0), (1, .ref (E.2.2.1 h1)), (2, .int s)] [] I) (h : FN_firstOf_2b v0 h1 v2 I K X2) : jJ Z E 3 (jQi Z E (fun r I2 => I = I2 ∧ K r)) 2 [(0, .int v0), (1, .ref (E.2.2.1 h1)), (2, .int v2)] [] I := by
  unfold FN_firstOf_2b at h
  refine j_iload_n C d_FN_firstOf_2 rfl 2 rfl ?_
  refine j_aload_n C d_FN_firstOf_3 rfl 1 rfl ?_
  refine fg_FN_48 C g_h1 d_FN_firstOf_4 ?_
  refine j_icmp_ge C d_FN_firstOf_7 (tgt := 37) (by decide) (fun c7 => ?_) (fun c7 => ?_)
  · have h := h.1 c7
    refine j_bipush C d_FN_firstOf_37 ib_m9 ?_
    exact j_iret C hr d_FN_firstOf_39 ⟨rfl, h⟩
  · have h := h.2 c7
    refine j_iload_n C d_FN_firstOf_10 rfl 0 rfl ?_
    refine j_aload_n C d_FN_firstOf_11 rfl 1 rfl ?_
    refine fg_FN_53 C g_h1 d_FN_firstOf_12 ?_
    refine j_iload_n C d_FN_firstOf_15 rfl 2 rfl ?_
    obtain ⟨hi, h⟩ := h
    refine j_iaload C (sh_RO_0 hE g_h1) hi d_FN_firstOf_16 ?_
    refine j_ishr C d_FN_firstOf_17 ?_
    refine j_iconst C d_FN_firstOf_18 ic_1 ?_
    refine j_iand C d_FN_firstOf_19 ?_
    refine j_iconst C d_FN_firstOf_20 ic_1 ?_
    refine j_icmp_ne C d_FN_firstOf_21 (tgt := 31) (by decide) (fun c21 => ?_) (fun c21 => ?_)
    · have h := h.1 c21
      refine j_iinc C d_FN_firstOf_31 2 rfl (v := (v2 + 1)) rfl (by decide) (lv' := [(2, .int (v2 + 1)), (0, .int v0), (1, .ref (E.2.2.1 h1))]) rfl ?_
      refine j_goto C d_FN_firstOf_34 (tgt := 2) (by decide) ?_
      refine j_lv [1, 2, 0] rfl ?_
      exact hX2 (v2 + 1) h
    · have h := h.2 c21
      refine j_aload_n C d_FN_firstOf_24 rfl 1 rfl ?_
      refine fg_FN_53 C g_h1 d_FN_firstOf_25 ?_
      refine j_iload_n C d_FN_firstOf_28 rfl 2 rfl ?_
      obtain ⟨hi, h⟩ := h
      refine j_iaload C (sh_RO_0 hE g_h1) hi d_FN_firstOf_29 ?_
      exact j_iret C hr d_FN_firstOf_30 ⟨rfl, h⟩
theorem k_FN_firstOf_2 {Z : jZ} {E : jE} (C : jC Z E prog_2_method_5_code 3 "OutOrder$FullNet" 0 0) (hr : (jZh Z).sig.returnType = (some .int)) (hE : E.2.2.2 = jLX)  (v0 : Int32) (h1 : Nat) (v2 : Int32) (I : jM) (g_h1 : jOB E 6 h1) {K : Int32 → Prop} (h : FN_firstOf_2 v0 h1 v2 I K) : jJ Z E 3 (jQi Z E (fun r I2 => I = I2 ∧ K r)) 2 [(0, .int v0), (1, .ref (E.2.2.1 h1)), (2, .int v2)] [] I := by
  unfold FN_firstOf_2 at h
  exact h (fun s => jJ Z E 3 (jQi Z E (fun r I2 => I = I2 ∧ K r)) 2 [(0, .int v0), (1, .ref (E.2.2.1 h1)), (2, .int s)] [] I) (fun s hs => kb_FN_firstOf_2 C hr hE v0 h1 s I g_h1 (fun s2 h2 => h2) hs)
/-- OutOrder$FullNet.firstOf(ILOutOrder$Row;)I -/
def FN_firstOf (v0 : Int32) (h1 : Nat) (I : jM) (K : Int32 → Prop) : Prop :=
  FN_firstOf_2 v0 h1 (0 : Int32) I K
set_option maxRecDepth 100000 in
set_option maxHeartbeats 4000000 in
theorem s_FN_firstOf {l : Launch} {E : jE} (ok : jOK E) (hE : E.2.2.2 = jLX) {v0 : Int32} {h1 : Nat} (g_h1 : jOB E 6 h1) {I : jM} {K : Int32 → Prop} (h : FN_firstOf v0 h1 I K) : jSi l E ⟨"OutOrder$FullNet", "firstOf", "(ILOutOrder$Row;)I"⟩ prog_2_method_5_code 3 (some .int) 0 0 [.int v0, .ref (E.2.2.1 h1)] I (fun r I2 => I = I2 ∧ K r) := by
  refine jS_ofF (own := "OutOrder$FullNet") (by decide +kernel) rfl ok (Nat.le_of_ble_eq_true rfl) (fun Z _ C hr => ?_)
  show jJ Z E 3 (jQi Z E (fun r I2 => I = I2 ∧ K r)) 0 [(0, .int v0), (1, .ref (E.2.2.1 h1))] [] I
  unfold FN_firstOf at h
  refine j_iconst C d_FN_firstOf_0 ic_0 ?_
  refine j_istore_n C d_FN_firstOf_1 rfl (by decide) (lv' := [(2, .int (0 : Int32)), (0, .int v0), (1, .ref (E.2.2.1 h1))]) rfl ?_
  refine j_lv [1, 2, 0] rfl ?_
  exact k_FN_firstOf_2 C hr hE v0 h1 (0 : Int32) I g_h1 h
theorem d_FN_insertGroup_0 : decode prog_2_method_8_code 0 = .ok (.aload_n 0, 1) := by decide +kernel
theorem d_FN_insertGroup_1 : decode prog_2_method_8_code 1 = .ok (.getfield 90, 3) := by decide +kernel
theorem d_FN_insertGroup_4 : decode prog_2_method_8_code 4 = .ok (.istore_n 2, 1) := by decide +kernel
theorem d_FN_insertGroup_5 : decode prog_2_method_8_code 5 = .ok (.iload_n 2, 1) := by decide +kernel
theorem d_FN_insertGroup_6 : decode prog_2_method_8_code 6 = .ok (.ifCond .le 35, 3) := by decide +kernel
theorem d_FN_insertGroup_9 : decode prog_2_method_8_code 9 = .ok (.aload_n 0, 1) := by decide +kernel
theorem d_FN_insertGroup_10 : decode prog_2_method_8_code 10 = .ok (.getfield 34, 3) := by decide +kernel
theorem d_FN_insertGroup_13 : decode prog_2_method_8_code 13 = .ok (.iload_n 2, 1) := by decide +kernel
theorem d_FN_insertGroup_14 : decode prog_2_method_8_code 14 = .ok (.iconst 1, 1) := by decide +kernel
theorem d_FN_insertGroup_15 : decode prog_2_method_8_code 15 = .ok (.isub, 1) := by decide +kernel
theorem d_FN_insertGroup_16 : decode prog_2_method_8_code 16 = .ok (.iaload, 1) := by decide +kernel
theorem d_FN_insertGroup_17 : decode prog_2_method_8_code 17 = .ok (.iload_n 1, 1) := by decide +kernel
theorem d_FN_insertGroup_18 : decode prog_2_method_8_code 18 = .ok (.if_icmp .le 23, 3) := by decide +kernel
theorem d_FN_insertGroup_21 : decode prog_2_method_8_code 21 = .ok (.aload_n 0, 1) := by decide +kernel
theorem d_FN_insertGroup_22 : decode prog_2_method_8_code 22 = .ok (.getfield 34, 3) := by decide +kernel
theorem d_FN_insertGroup_25 : decode prog_2_method_8_code 25 = .ok (.iload_n 2, 1) := by decide +kernel
theorem d_FN_insertGroup_26 : decode prog_2_method_8_code 26 = .ok (.aload_n 0, 1) := by decide +kernel
theorem d_FN_insertGroup_27 : decode prog_2_method_8_code 27 = .ok (.getfield 34, 3) := by decide +kernel
theorem d_FN_insertGroup_30 : decode prog_2_method_8_code 30 = .ok (.iload_n 2, 1) := by decide +kernel
theorem d_FN_insertGroup_31 : decode prog_2_method_8_code 31 = .ok (.iconst 1, 1) := by decide +kernel
theorem d_FN_insertGroup_32 : decode prog_2_method_8_code 32 = .ok (.isub, 1) := by decide +kernel
theorem d_FN_insertGroup_33 : decode prog_2_method_8_code 33 = .ok (.iaload, 1) := by decide +kernel
theorem d_FN_insertGroup_34 : decode prog_2_method_8_code 34 = .ok (.iastore, 1) := by decide +kernel
theorem d_FN_insertGroup_35 : decode prog_2_method_8_code 35 = .ok (.iinc 2 (-1), 3) := by decide +kernel
theorem d_FN_insertGroup_38 : decode prog_2_method_8_code 38 = .ok (.goto (-33), 3) := by decide +kernel
theorem d_FN_insertGroup_41 : decode prog_2_method_8_code 41 = .ok (.aload_n 0, 1) := by decide +kernel
theorem d_FN_insertGroup_42 : decode prog_2_method_8_code 42 = .ok (.getfield 34, 3) := by decide +kernel
theorem d_FN_insertGroup_45 : decode prog_2_method_8_code 45 = .ok (.iload_n 2, 1) := by decide +kernel
theorem d_FN_insertGroup_46 : decode prog_2_method_8_code 46 = .ok (.iload_n 1, 1) := by decide +kernel
theorem d_FN_insertGroup_47 : decode prog_2_method_8_code 47 = .ok (.iastore, 1) := by decide +kernel
theorem d_FN_insertGroup_48 : decode prog_2_method_8_code 48 = .ok (.aload_n 0, 1) := by decide +kernel
theorem d_FN_insertGroup_49 : decode prog_2_method_8_code 49 = .ok (.dup, 1) := by decide +kernel
theorem d_FN_insertGroup_50 : decode prog_2_method_8_code 50 = .ok (.getfield 90, 3) := by decide +kernel
theorem d_FN_insertGroup_53 : decode prog_2_method_8_code 53 = .ok (.iconst 1, 1) := by decide +kernel
theorem d_FN_insertGroup_54 : decode prog_2_method_8_code 54 = .ok (.iadd, 1) := by decide +kernel
theorem d_FN_insertGroup_55 : decode prog_2_method_8_code 55 = .ok (.putfield 90, 3) := by decide +kernel
theorem d_FN_insertGroup_58 : decode prog_2_method_8_code 58 = .ok (.return_, 1) := by decide +kernel
def FN_insertGroup_41 (h0 : Nat) (v1 : Int32) (v2 : Int32) (I : jM) (K : jM → Prop) : Prop :=
  (vp_in v2 24 ∧ (∀ I_1 : jM, I_1 = jwr I (jr h0 6) v2.toNatClampNeg v1 → (∀ I_2 : jM, I_2 = jwr I_1 h0 8 ((I_1 h0 8) + (1 : Int32)) → K I_2)))
set_option maxRecDepth 100000 in
set_option maxHeartbeats 4000000 in
theorem k_FN_insertGroup_41 {Z : jZ} {E : jE} (C : jC Z E prog_2_method_8_code 3 "OutOrder$FullNet" 0 0) (hr : (jZh Z).sig.returnType = none) (hE : E.2.2.2 = jLX)  (h0 : Nat) (v1 : Int32) (v2 : Int32) (I : jM) (g_h0 : jOB E 0 h0) {K : jM → Prop} (h : FN_insertGroup_41 h0 v1 v2 I K) : jJ Z E 3 (jQv Z E K) 41 [(0, .ref (E.2.2.1 h0)), (1, .int v1), (2, .int v2)] [] I := by
  unfold FN_insertGroup_41 at h
  refine j_aload_n C d_FN_insertGroup_41 rfl 0 rfl ?_
  refine fg_FN_34 C g_h0 d_FN_insertGroup_42 ?_
  refine j_iload_n C d_FN_insertGroup_45 rfl 2 rfl ?_
  refine j_iload_n C d_FN_insertGroup_46 rfl 1 rfl ?_
  obtain ⟨hi, h⟩ := h
  refine j_iastore C (sh_FN_6 hE g_h0) hi d_FN_insertGroup_47 ?_
  have h := h _ rfl
  generalize eI_1 : (jwr I (jr h0 6) v2.toNatClampNeg v1 : jM) = I_1 at h ⊢
  refine j_aload_n C d_FN_insertGroup_48 rfl 0 rfl ?_
  refine j_dup C d_FN_insertGroup_49 rfl ?_
  refine fg_FN_90 C g_h0 d_FN_insertGroup_50 ?_
  refine j_iconst C d_FN_insertGroup_53 ic_1 ?_
  refine j_iadd C d_FN_insertGroup_54 ?_
  refine fp_FN_90 C g_h0 d_FN_insertGroup_55 ?_
  have h := h _ rfl
  generalize eI_2 : (jwr I_1 h0 8 ((I_1 h0 8) + (1 : Int32)) : jM) = I_2 at h ⊢
  exact j_vret C hr d_FN_insertGroup_58 h
def FN_insertGroup_5b (h0 : Nat) (v1 : Int32) (v2 : Int32) (I : jM) (K : jM → Prop) (X5 : Int32 × jM → Prop) : Prop :=
  ((v2 ≤ 0 → FN_insertGroup_41 h0 v1 v2 I K) ∧ (¬ v2 ≤ 0 → (vp_in (v2 - (1 : Int32)) 24 ∧ (((I (jr h0 6) (v2 - (1 : Int32)).toNatClampNeg) ≤ v1 → FN_insertGroup_41 h0 v1 v2 I K) ∧ (¬ (I (jr h0 6) (v2 - (1 : Int32)).toNatClampNeg) ≤ v1 → (vp_in (v2 - (1 : Int32)) 24 ∧ (vp_in v2 24 ∧ (∀ I_1 : jM, I_1 = jwr I (jr h0 6) v2.toNatClampNeg (I (jr h0 6) (v2 - (1 : Int32)).toNatClampNeg) → X5 ((v2 + (-1)), I_1)))))))))
def FN_insertGroup_5 (h0 : Nat) (v1 : Int32) (v2 : Int32) (I : jM) (K : jM → Prop) : Prop :=
  lp (fun (X5 : Int32 × jM → Prop) (s : Int32 × jM) => FN_insertGroup_5b h0 v1 s.1 s.2 K X5) (v2, I)
set_option maxRecDepth 100000 in
set_option maxHeartbeats 4000000 in
theorem kb_FN_insertGroup_5 {Z : jZ} {E : jE} (C : jC Z E prog_2_method_8_code 3 "OutOrder$FullNet" 0 0) (hr : (jZh Z).sig.returnType = none) (hE : E.2.2.2 = jLX)  (h0 : Nat) (v1 : Int32) (v2 : Int32) (I : jM) (g_h0 : jOB E 0 h0) {K : jM → Prop} {X5 : Int32 × jM → Prop} (hX5 : ∀ s : Int32 × jM, X5 s → jJ Z E 3 (jQv Z E K) 5 [(0, .ref (E.2.2.1 h0)), (1, .int v1), (2, .int s.1)] [] s.2) (h : FN_insertGroup_5b h0 v1 v2 I K X5) : jJ Z E 3 (jQv Z E K) 5 [(0, .ref (E.2.2.1 h0)), (1, .int v1), (2, .int v2)] [] I := by
  unfold FN_insertGroup_5b at h
  refine j_iload_n C d_FN_insertGroup_5 rfl 2 rfl ?_
  refine j_if_le C d_FN_insertGroup_6 (tgt := 41) (by decide) (fun c6 => ?_) (fun c6 => ?_)
  · have h := h.1 c6
    refine j_lv [0, 1, 2] rfl ?_
    exact k_FN_insertGroup_41 C hr hE h0 v1 v2 I g_h0 h
  · have h := h.2 c6
    refine j_aload_n C d_FN_insertGroup_9 rfl 0 rfl ?_
    refine fg_FN_34 C g_h0 d_FN_insertGroup_10 ?_
    refine j_iload_n C d_FN_insertGroup_13 rfl 2 rfl ?_
    refine j_iconst C d_FN_insertGroup_14 ic_1 ?_
    refine j_isub C d_FN_insertGroup_15 ?_
    obtain ⟨hi, h⟩ := h
    refine j_iaload C (sh_FN_6 hE g_h0) hi d_FN_insertGroup_16 ?_
    refine j_iload_n C d_FN_insertGroup_17 rfl 1 rfl ?_
    refine j_icmp_le C d_FN_insertGroup_18 (tgt := 41) (by decide) (fun c18 => ?_) (fun c18 => ?_)
    · have h := h.1 c18
      refine j_lv [0, 1, 2] rfl ?_
      exact k_FN_insertGroup_41 C hr hE h0 v1 v2 I g_h0 h
    · have h := h.2 c18
      refine j_aload_n C d_FN_insertGroup_21 rfl 0 rfl ?_
      refine fg_FN_34 C g_h0 d_FN_insertGroup_22 ?_
      refine j_iload_n C d_FN_insertGroup_25 rfl 2 rfl ?_
      refine j_aload_n C d_FN_insertGroup_26 rfl 0 rfl ?_
      refine fg_FN_34 C g_h0 d_FN_insertGroup_27 ?_
      refine j_iload_n C d_FN_insertGroup_30 rfl 2 rfl ?_
      refine j_iconst C d_FN_insertGroup_31 ic_1 ?_
      refine j_isub C d_FN_insertGroup_32 ?_
      obtain ⟨hi, h⟩ := h
      refine j_iaload C (sh_FN_6 hE g_h0) hi d_FN_insertGroup_33 ?_
      obtain ⟨hi, h⟩ := h
      refine j_iastore C (sh_FN_6 hE g_h0) hi d_FN_insertGroup_34 ?_
      have h := h _ rfl
      generalize eI_1 : (jwr I (jr h0 6) v2.toNatClampNeg (I (jr h0 6) (v2 - (1 : Int32)).toNatClampNeg) : jM) = I_1 at h ⊢
      refine j_iinc C d_FN_insertGroup_35 2 rfl (v := (v2 + (-1))) rfl (by decide) (lv' := [(2, .int (v2 + (-1))), (0, .ref (E.2.2.1 h0)), (1, .int v1)]) rfl ?_
      refine j_goto C d_FN_insertGroup_38 (tgt := 5) (by decide) ?_
      refine j_lv [1, 2, 0] rfl ?_
      exact hX5 ((v2 + (-1)), I_1) h
theorem k_FN_insertGroup_5 {Z : jZ} {E : jE} (C : jC Z E prog_2_method_8_code 3 "OutOrder$FullNet" 0 0) (hr : (jZh Z).sig.returnType = none) (hE : E.2.2.2 = jLX)  (h0 : Nat) (v1 : Int32) (v2 : Int32) (I : jM) (g_h0 : jOB E 0 h0) {K : jM → Prop} (h : FN_insertGroup_5 h0 v1 v2 I K) : jJ Z E 3 (jQv Z E K) 5 [(0, .ref (E.2.2.1 h0)), (1, .int v1), (2, .int v2)] [] I := by
  unfold FN_insertGroup_5 at h
  exact h (fun s => jJ Z E 3 (jQv Z E K) 5 [(0, .ref (E.2.2.1 h0)), (1, .int v1), (2, .int s.1)] [] s.2) (fun s hs => kb_FN_insertGroup_5 C hr hE h0 v1 s.1 s.2 g_h0 (fun s2 h2 => h2) hs)
/-- OutOrder$FullNet.insertGroup(I)V -/
def FN_insertGroup (h0 : Nat) (v1 : Int32) (I : jM) (K : jM → Prop) : Prop :=
  (∀ v2_1 : Int32, v2_1 = (I h0 8) → FN_insertGroup_5 h0 v1 v2_1 I K)
set_option maxRecDepth 100000 in
set_option maxHeartbeats 4000000 in
theorem s_FN_insertGroup {l : Launch} {E : jE} (ok : jOK E) (hE : E.2.2.2 = jLX) {h0 : Nat} {v1 : Int32} (g_h0 : jOB E 0 h0) {I : jM} {K : jM → Prop} (h : FN_insertGroup h0 v1 I K) : jSv l E ⟨"OutOrder$FullNet", "insertGroup", "(I)V"⟩ prog_2_method_8_code 3 none 0 0 [.ref (E.2.2.1 h0), .int v1] I K := by
  refine jS_ofF (own := "OutOrder$FullNet") (by decide +kernel) rfl ok (Nat.le_of_ble_eq_true rfl) (fun Z _ C hr => ?_)
  show jJ Z E 3 (jQv Z E K) 0 [(0, .ref (E.2.2.1 h0)), (1, .int v1)] [] I
  unfold FN_insertGroup at h
  refine j_aload_n C d_FN_insertGroup_0 rfl 0 rfl ?_
  refine fg_FN_90 C g_h0 d_FN_insertGroup_1 ?_
  refine j_topi (fun v2_1 ev2_1 => ?_)
  have h := h v2_1 ev2_1
  refine j_istore_n C d_FN_insertGroup_4 rfl (by decide) (lv' := [(2, .int v2_1), (0, .ref (E.2.2.1 h0)), (1, .int v1)]) rfl ?_
  refine j_lv [1, 2, 0] rfl ?_
  exact k_FN_insertGroup_5 C hr hE h0 v1 v2_1 I g_h0 h
theorem d_FN_isWithinAnother_0 : decode prog_2_method_7_code 0 = .ok (.aload_n 0, 1) := by decide +kernel
theorem d_FN_isWithinAnother_1 : decode prog_2_method_7_code 1 = .ok (.getfield 22, 3) := by decide +kernel
theorem d_FN_isWithinAnother_4 : decode prog_2_method_7_code 4 = .ok (.iload_n 1, 1) := by decide +kernel
theorem d_FN_isWithinAnother_5 : decode prog_2_method_7_code 5 = .ok (.iaload, 1) := by decide +kernel
theorem d_FN_isWithinAnother_6 : decode prog_2_method_7_code 6 = .ok (.iconst 1, 1) := by decide +kernel
theorem d_FN_isWithinAnother_7 : decode prog_2_method_7_code 7 = .ok (.iload_n 1, 1) := by decide +kernel
theorem d_FN_isWithinAnother_8 : decode prog_2_method_7_code 8 = .ok (.ishl, 1) := by decide +kernel
theorem d_FN_isWithinAnother_9 : decode prog_2_method_7_code 9 = .ok (.ior, 1) := by decide +kernel
theorem d_FN_isWithinAnother_10 : decode prog_2_method_7_code 10 = .ok (.istore_n 3, 1) := by decide +kernel
theorem d_FN_isWithinAnother_11 : decode prog_2_method_7_code 11 = .ok (.iconst 0, 1) := by decide +kernel
theorem d_FN_isWithinAnother_12 : decode prog_2_method_7_code 12 = .ok (.istore 4, 2) := by decide +kernel
theorem d_FN_isWithinAnother_14 : decode prog_2_method_7_code 14 = .ok (.iload 4, 2) := by decide +kernel
theorem d_FN_isWithinAnother_16 : decode prog_2_method_7_code 16 = .ok (.iload_n 2, 1) := by decide +kernel
theorem d_FN_isWithinAnother_17 : decode prog_2_method_7_code 17 = .ok (.if_icmp .ge 36, 3) := by decide +kernel
theorem d_FN_isWithinAnother_20 : decode prog_2_method_7_code 20 = .ok (.iload 4, 2) := by decide +kernel
theorem d_FN_isWithinAnother_22 : decode prog_2_method_7_code 22 = .ok (.iload_n 1, 1) := by decide +kernel
theorem d_FN_isWithinAnother_23 : decode prog_2_method_7_code 23 = .ok (.if_icmp .eq 24, 3) := by decide +kernel
theorem d_FN_isWithinAnother_26 : decode prog_2_method_7_code 26 = .ok (.iload_n 3, 1) := by decide +kernel
theorem d_FN_isWithinAnother_27 : decode prog_2_method_7_code 27 = .ok (.aload_n 0, 1) := by decide +kernel
theorem d_FN_isWithinAnother_28 : decode prog_2_method_7_code 28 = .ok (.getfield 22, 3) := by decide +kernel
theorem d_FN_isWithinAnother_31 : decode prog_2_method_7_code 31 = .ok (.iload 4, 2) := by decide +kernel
theorem d_FN_isWithinAnother_33 : decode prog_2_method_7_code 33 = .ok (.iaload, 1) := by decide +kernel
theorem d_FN_isWithinAnother_34 : decode prog_2_method_7_code 34 = .ok (.iconst 1, 1) := by decide +kernel
theorem d_FN_isWithinAnother_35 : decode prog_2_method_7_code 35 = .ok (.iload 4, 2) := by decide +kernel
theorem d_FN_isWithinAnother_37 : decode prog_2_method_7_code 37 = .ok (.ishl, 1) := by decide +kernel
theorem d_FN_isWithinAnother_38 : decode prog_2_method_7_code 38 = .ok (.ior, 1) := by decide +kernel
theorem d_FN_isWithinAnother_39 : decode prog_2_method_7_code 39 = .ok (.iconst (-1), 1) := by decide +kernel
theorem d_FN_isWithinAnother_40 : decode prog_2_method_7_code 40 = .ok (.ixor, 1) := by decide +kernel
theorem d_FN_isWithinAnother_41 : decode prog_2_method_7_code 41 = .ok (.iand, 1) := by decide +kernel
theorem d_FN_isWithinAnother_42 : decode prog_2_method_7_code 42 = .ok (.ifCond .ne 5, 3) := by decide +kernel
theorem d_FN_isWithinAnother_45 : decode prog_2_method_7_code 45 = .ok (.iconst 1, 1) := by decide +kernel
theorem d_FN_isWithinAnother_46 : decode prog_2_method_7_code 46 = .ok (.ireturn, 1) := by decide +kernel
theorem d_FN_isWithinAnother_47 : decode prog_2_method_7_code 47 = .ok (.iinc 4 1, 3) := by decide +kernel
theorem d_FN_isWithinAnother_50 : decode prog_2_method_7_code 50 = .ok (.goto (-36), 3) := by decide +kernel
theorem d_FN_isWithinAnother_53 : decode prog_2_method_7_code 53 = .ok (.iconst 0, 1) := by decide +kernel
theorem d_FN_isWithinAnother_54 : decode prog_2_method_7_code 54 = .ok (.ireturn, 1) := by decide +kernel
def FN_isWithinAnother_14b (h0 : Nat) (v1 : Int32) (v2 : Int32) (v3 : Int32) (v4 : Int32) (I : jM) (K : Int32 → Prop) (X14 : Int32 → Prop) : Prop :=
  ((v2 ≤ v4 → K (0 : Int32)) ∧ (¬ v2 ≤ v4 → ((v4 = v1 → X14 (v4 + 1)) ∧ (¬ v4 = v1 → (vp_in v4 24 ∧ ((¬ (v3 &&& (((I (jr h0 2) v4.toNatClampNeg) ||| ((1 : Int32) <<< (v4 &&& 31))) ^^^ (-1 : Int32))) = 0 → X14 (v4 + 1)) ∧ ((v3 &&& (((I (jr h0 2) v4.toNatClampNeg) ||| ((1 : Int32) <<< (v4 &&& 31))) ^^^ (-1 : Int32))) = 0 → K (1 : Int32))))))))
def FN_isWithinAnother_14 (h0 : Nat) (v1 : Int32) (v2 : Int32) (v3 : Int32) (v4 : Int32) (I : jM) (K : Int32 → Prop) : Prop :=
  lp (fun (X14 : Int32 → Prop) (s : Int32) => FN_isWithinAnother_14b h0 v1 v2 v3 s I K X14) v4
set_option maxRecDepth 100000 in
set_option maxHeartbeats 4000000 in
theorem kb_FN_isWithinAnother_14 {Z : jZ} {E : jE} (C : jC Z E prog_2_method_7_code 5 "OutOrder$FullNet" 0 0) (hr : (jZh Z).sig.returnType = (some .boolean)) (hE : E.2.2.2 = jLX)  (h0 : Nat) (v1 : Int32) (v2 : Int32) (v3 : Int32) (v4 : Int32) (I : jM) (g_h0 : jOB E 0 h0) {K : Int32 → Prop} {X14 : Int32 → Prop} (hX14 : ∀ s : Int32, X14 s → jJ Z E 5 (jQi Z E (fun r I2 => I = I2 ∧ K r)) 14 [(0, .ref (E.2.2.1 h0)), (1, .int v1), (2, .int v2), (3, .int v3), (4, .int s)] [] I) (h : FN_isWithinAnother_14b h0 v1 v2 v3 v4 I K X14) : jJ Z E 5 (jQi Z E (fun r I2 => I = I2 ∧ K r)) 14 [(0, .ref (E.2.2.1 h0)), (1, .int v1), (2, .int v2), (3, .int v3), (4, .int v4)] [] I := by
  unfold FN_isWithinAnother_14b at h
  refine j_iload C d_FN_isWithinAnother_14 4 rfl ?_
  refine j_iload_n C d_FN_isWithinAnother_16 rfl 2 rfl ?_
  refine j_icmp_ge C d_FN_isWithinAnother_17 (tgt := 53) (by decide) (fun c17 => ?_) (fun c17 => ?_)
  · have h := h.1 c17
    refine j_iconst C d_FN_isWithinAnother_53 ic_0 ?_
    exact j_zret C hr (by decide) d_FN_isWithinAnother_54 ⟨rfl, h⟩
  · have h := h.2 c17
    refine j_iload C d_FN_isWithinAnother_20 4 rfl ?_
    refine j_iload_n C d_FN_isWithinAnother_22 rfl 1 rfl ?_
    refine j_icmp_eq C d_FN_isWithinAnother_23 (tgt := 47) (by decide) (fun c23 => ?_) (fun c23 => ?_)
    · have h := h.1 c23
      refine j_iinc C d_FN_isWithinAnother_47 4 rfl (v := (v4 + 1)) rfl (by decide) (lv' := [(4, .int (v4 + 1)), (0, .ref (E.2.2.1 h0)), (1, .int v1), (2, .int v2), (3, .int v3)]) rfl ?_
      refine j_goto C d_FN_isWithinAnother_50 (tgt := 14) (by decide) ?_
      refine j_lv [1, 2, 3, 4, 0] rfl ?_
      exact hX14 (v4 + 1) h
    · have h := h.2 c23
      refine j_iload_n C d_FN_isWithinAnother_26 rfl 3 rfl ?_
      refine j_aload_n C d_FN_isWithinAnother_27 rfl 0 rfl ?_
      refine fg_FN_22 C g_h0 d_FN_isWithinAnother_28 ?_
      refine j_iload C d_FN_isWithinAnother_31 4 rfl ?_
      obtain ⟨hi, h⟩ := h
      refine j_iaload C (sh_FN_2 hE g_h0) hi d_FN_isWithinAnother_33 ?_
      refine j_iconst C d_FN_isWithinAnother_34 ic_1 ?_
      refine j_iload C d_FN_isWithinAnother_35 4 rfl ?_
      refine j_ishl C d_FN_isWithinAnother_37 ?_
      refine j_ior C d_FN_isWithinAnother_38 ?_
      refine j_iconst C d_FN_isWithinAnother_39 ic_m1 ?_
      refine j_ixor C d_FN_isWithinAnother_40 ?_
      refine j_iand C d_FN_isWithinAnother_41 ?_
      refine j_if_ne C d_FN_isWithinAnother_42 (tgt := 47) (by decide) (fun c42 => ?_) (fun c42 => ?_)
      · have h := h.1 c42
        refine j_iinc C d_FN_isWithinAnother_47 4 rfl (v := (v4 + 1)) rfl (by decide) (lv' := [(4, .int (v4 + 1)), (0, .ref (E.2.2.1 h0)), (1, .int v1), (2, .int v2), (3, .int v3)]) rfl ?_
        refine j_goto C d_FN_isWithinAnother_50 (tgt := 14) (by decide) ?_
        refine j_lv [1, 2, 3, 4, 0] rfl ?_
        exact hX14 (v4 + 1) h
      · have h := h.2 c42
        refine j_iconst C d_FN_isWithinAnother_45 ic_1 ?_
        exact j_zret C hr (by decide) d_FN_isWithinAnother_46 ⟨rfl, h⟩
theorem k_FN_isWithinAnother_14 {Z : jZ} {E : jE} (C : jC Z E prog_2_method_7_code 5 "OutOrder$FullNet" 0 0) (hr : (jZh Z).sig.returnType = (some .boolean)) (hE : E.2.2.2 = jLX)  (h0 : Nat) (v1 : Int32) (v2 : Int32) (v3 : Int32) (v4 : Int32) (I : jM) (g_h0 : jOB E 0 h0) {K : Int32 → Prop} (h : FN_isWithinAnother_14 h0 v1 v2 v3 v4 I K) : jJ Z E 5 (jQi Z E (fun r I2 => I = I2 ∧ K r)) 14 [(0, .ref (E.2.2.1 h0)), (1, .int v1), (2, .int v2), (3, .int v3), (4, .int v4)] [] I := by
  unfold FN_isWithinAnother_14 at h
  exact h (fun s => jJ Z E 5 (jQi Z E (fun r I2 => I = I2 ∧ K r)) 14 [(0, .ref (E.2.2.1 h0)), (1, .int v1), (2, .int v2), (3, .int v3), (4, .int s)] [] I) (fun s hs => kb_FN_isWithinAnother_14 C hr hE h0 v1 v2 v3 s I g_h0 (fun s2 h2 => h2) hs)
/-- OutOrder$FullNet.isWithinAnother(II)Z -/
def FN_isWithinAnother (h0 : Nat) (v1 : Int32) (v2 : Int32) (I : jM) (K : Int32 → Prop) : Prop :=
  (vp_in v1 24 ∧ (∀ v3_1 : Int32, v3_1 = ((I (jr h0 2) v1.toNatClampNeg) ||| ((1 : Int32) <<< (v1 &&& 31))) → FN_isWithinAnother_14 h0 v1 v2 v3_1 (0 : Int32) I K))
set_option maxRecDepth 100000 in
set_option maxHeartbeats 4000000 in
theorem s_FN_isWithinAnother {l : Launch} {E : jE} (ok : jOK E) (hE : E.2.2.2 = jLX) {h0 : Nat} {v1 : Int32} {v2 : Int32} (g_h0 : jOB E 0 h0) {I : jM} {K : Int32 → Prop} (h : FN_isWithinAnother h0 v1 v2 I K) : jSi l E ⟨"OutOrder$FullNet", "isWithinAnother", "(II)Z"⟩ prog_2_method_7_code 5 (some .boolean) 0 0 [.ref (E.2.2.1 h0), .int v1, .int v2] I (fun r I2 => I = I2 ∧ K r) := by
  refine jS_ofF (own := "OutOrder$FullNet") (by decide +kernel) rfl ok (Nat.le_of_ble_eq_true rfl) (fun Z _ C hr => ?_)
  show jJ Z E 5 (jQi Z E (fun r I2 => I = I2 ∧ K r)) 0 [(0, .ref (E.2.2.1 h0)), (1, .int v1), (2, .int v2)] [] I
  unfold FN_isWithinAnother at h
  refine j_aload_n C d_FN_isWithinAnother_0 rfl 0 rfl ?_
  refine fg_FN_22 C g_h0 d_FN_isWithinAnother_1 ?_
  refine j_iload_n C d_FN_isWithinAnother_4 rfl 1 rfl ?_
  obtain ⟨hi, h⟩ := h
  refine j_iaload C (sh_FN_2 hE g_h0) hi d_FN_isWithinAnother_5 ?_
  refine j_iconst C d_FN_isWithinAnother_6 ic_1 ?_
  refine j_iload_n C d_FN_isWithinAnother_7 rfl 1 rfl ?_
  refine j_ishl C d_FN_isWithinAnother_8 ?_
  refine j_ior C d_FN_isWithinAnother_9 ?_
  refine j_topi (fun v3_1 ev3_1 => ?_)
  have h := h v3_1 ev3_1
  refine j_istore_n C d_FN_isWithinAnother_10 rfl (by decide) (lv' := [(3, .int v3_1), (0, .ref (E.2.2.1 h0)), (1, .int v1), (2, .int v2)]) rfl ?_
  refine j_iconst C d_FN_isWithinAnother_11 ic_0 ?_
  refine j_istore C d_FN_isWithinAnother_12 (by decide) (lv' := [(4, .int (0 : Int32)), (3, .int v3_1), (0, .ref (E.2.2.1 h0)), (1, .int v1), (2, .int v2)]) rfl ?_
  refine j_lv [2, 3, 4, 1, 0] rfl ?_
  exact k_FN_isWithinAnother_14 C hr hE h0 v1 v2 v3_1 (0 : Int32) I g_h0 h
theorem d_FN_listFills_0 : decode prog_2_method_3_code 0 = .ok (.iconst 0, 1) := by decide +kernel
theorem d_FN_listFills_1 : decode prog_2_method_3_code 1 = .ok (.istore_n 2, 1) := by decide +kernel
theorem d_FN_listFills_2 : decode prog_2_method_3_code 2 = .ok (.iload_n 2, 1) := by decide +kernel
theorem d_FN_listFills_3 : decode prog_2_method_3_code 3 = .ok (.aload_n 0, 1) := by decide +kernel
theorem d_FN_listFills_4 : decode prog_2_method_3_code 4 = .ok (.getfield 12, 3) := by decide +kernel
theorem d_FN_listFills_7 : decode prog_2_method_3_code 7 = .ok (.getfield 85, 3) := by decide +kernel
theorem d_FN_listFills_10 : decode prog_2_method_3_code 10 = .ok (.if_icmp .ge 105, 3) := by decide +kernel
theorem d_FN_listFills_13 : decode prog_2_method_3_code 13 = .ok (.iload_n 1, 1) := by decide +kernel
theorem d_FN_listFills_14 : decode prog_2_method_3_code 14 = .ok (.iload_n 2, 1) := by decide +kernel
theorem d_FN_listFills_15 : decode prog_2_method_3_code 15 = .ok (.ishr, 1) := by decide +kernel
theorem d_FN_listFills_16 : decode prog_2_method_3_code 16 = .ok (.iconst 1, 1) := by decide +kernel
theorem d_FN_listFills_17 : decode prog_2_method_3_code 17 = .ok (.iand, 1) := by decide +kernel
theorem d_FN_listFills_18 : decode prog_2_method_3_code 18 = .ok (.ifCond .ne 6, 3) := by decide +kernel
theorem d_FN_listFills_21 : decode prog_2_method_3_code 21 = .ok (.goto 88, 3) := by decide +kernel
theorem d_FN_listFills_24 : decode prog_2_method_3_code 24 = .ok (.iload_n 1, 1) := by decide +kernel
theorem d_FN_listFills_25 : decode prog_2_method_3_code 25 = .ok (.aload_n 0, 1) := by decide +kernel
theorem d_FN_listFills_26 : decode prog_2_method_3_code 26 = .ok (.getfield 12, 3) := by decide +kernel
theorem d_FN_listFills_29 : decode prog_2_method_3_code 29 = .ok (.getfield 56, 3) := by decide +kernel
theorem d_FN_listFills_32 : decode prog_2_method_3_code 32 = .ok (.iload_n 2, 1) := by decide +kernel
theorem d_FN_listFills_33 : decode prog_2_method_3_code 33 = .ok (.iaload, 1) := by decide +kernel
theorem d_FN_listFills_34 : decode prog_2_method_3_code 34 = .ok (.iconst (-1), 1) := by decide +kernel
theorem d_FN_listFills_35 : decode prog_2_method_3_code 35 = .ok (.ixor, 1) := by decide +kernel
theorem d_FN_listFills_36 : decode prog_2_method_3_code 36 = .ok (.iand, 1) := by decide +kernel
theorem d_FN_listFills_37 : decode prog_2_method_3_code 37 = .ok (.istore_n 3, 1) := by decide +kernel
theorem d_FN_listFills_38 : decode prog_2_method_3_code 38 = .ok (.iload_n 2, 1) := by decide +kernel
theorem d_FN_listFills_39 : decode prog_2_method_3_code 39 = .ok (.iconst 1, 1) := by decide +kernel
theorem d_FN_listFills_40 : decode prog_2_method_3_code 40 = .ok (.iadd, 1) := by decide +kernel
theorem d_FN_listFills_41 : decode prog_2_method_3_code 41 = .ok (.istore 4, 2) := by decide +kernel
theorem d_FN_listFills_43 : decode prog_2_method_3_code 43 = .ok (.iload 4, 2) := by decide +kernel
theorem d_FN_listFills_45 : decode prog_2_method_3_code 45 = .ok (.aload_n 0, 1) := by decide +kernel
theorem d_FN_listFills_46 : decode prog_2_method_3_code 46 = .ok (.getfield 12, 3) := by decide +kernel
theorem d_FN_listFills_49 : decode prog_2_method_3_code 49 = .ok (.getfield 85, 3) := by decide +kernel
theorem d_FN_listFills_52 : decode prog_2_method_3_code 52 = .ok (.if_icmp .ge 57, 3) := by decide +kernel
theorem d_FN_listFills_55 : decode prog_2_method_3_code 55 = .ok (.iload_n 3, 1) := by decide +kernel
theorem d_FN_listFills_56 : decode prog_2_method_3_code 56 = .ok (.iload 4, 2) := by decide +kernel
theorem d_FN_listFills_58 : decode prog_2_method_3_code 58 = .ok (.ishr, 1) := by decide +kernel
theorem d_FN_listFills_59 : decode prog_2_method_3_code 59 = .ok (.iconst 1, 1) := by decide +kernel
theorem d_FN_listFills_60 : decode prog_2_method_3_code 60 = .ok (.iand, 1) := by decide +kernel
theorem d_FN_listFills_61 : decode prog_2_method_3_code 61 = .ok (.iconst 1, 1) := by decide +kernel
theorem d_FN_listFills_62 : decode prog_2_method_3_code 62 = .ok (.if_icmp .ne 41, 3) := by decide +kernel
theorem d_FN_listFills_65 : decode prog_2_method_3_code 65 = .ok (.aload_n 0, 1) := by decide +kernel
theorem d_FN_listFills_66 : decode prog_2_method_3_code 66 = .ok (.getfield 41, 3) := by decide +kernel
theorem d_FN_listFills_69 : decode prog_2_method_3_code 69 = .ok (.aload_n 0, 1) := by decide +kernel
theorem d_FN_listFills_70 : decode prog_2_method_3_code 70 = .ok (.getfield 18, 3) := by decide +kernel
theorem d_FN_listFills_73 : decode prog_2_method_3_code 73 = .ok (.arraylength, 1) := by decide +kernel
theorem d_FN_listFills_74 : decode prog_2_method_3_code 74 = .ok (.if_icmp .ge 29, 3) := by decide +kernel
theorem d_FN_listFills_77 : decode prog_2_method_3_code 77 = .ok (.aload_n 0, 1) := by decide +kernel
theorem d_FN_listFills_78 : decode prog_2_method_3_code 78 = .ok (.getfield 18, 3) := by decide +kernel
theorem d_FN_listFills_81 : decode prog_2_method_3_code 81 = .ok (.aload_n 0, 1) := by decide +kernel
theorem d_FN_listFills_82 : decode prog_2_method_3_code 82 = .ok (.getfield 41, 3) := by decide +kernel
theorem d_FN_listFills_85 : decode prog_2_method_3_code 85 = .ok (.bipush 32, 2) := by decide +kernel
theorem d_FN_listFills_87 : decode prog_2_method_3_code 87 = .ok (.iload_n 2, 1) := by decide +kernel
theorem d_FN_listFills_88 : decode prog_2_method_3_code 88 = .ok (.imul, 1) := by decide +kernel
theorem d_FN_listFills_89 : decode prog_2_method_3_code 89 = .ok (.iload 4, 2) := by decide +kernel
theorem d_FN_listFills_91 : decode prog_2_method_3_code 91 = .ok (.iadd, 1) := by decide +kernel
theorem d_FN_listFills_92 : decode prog_2_method_3_code 92 = .ok (.iastore, 1) := by decide +kernel
theorem d_FN_listFills_93 : decode prog_2_method_3_code 93 = .ok (.aload_n 0, 1) := by decide +kernel
theorem d_FN_listFills_94 : decode prog_2_method_3_code 94 = .ok (.dup, 1) := by decide +kernel
theorem d_FN_listFills_95 : decode prog_2_method_3_code 95 = .ok (.getfield 41, 3) := by decide +kernel
theorem d_FN_listFills_98 : decode prog_2_method_3_code 98 = .ok (.iconst 1, 1) := by decide +kernel
theorem d_FN_listFills_99 : decode prog_2_method_3_code 99 = .ok (.iadd, 1) := by decide +kernel
theorem d_FN_listFills_100 : decode prog_2_method_3_code 100 = .ok (.putfield 41, 3) := by decide +kernel
theorem d_FN_listFills_103 : decode prog_2_method_3_code 103 = .ok (.iinc 4 1, 3) := by decide +kernel
theorem d_FN_listFills_106 : decode prog_2_method_3_code 106 = .ok (.goto (-63), 3) := by decide +kernel
theorem d_FN_listFills_109 : decode prog_2_method_3_code 109 = .ok (.iinc 2 1, 3) := by decide +kernel
theorem d_FN_listFills_112 : decode prog_2_method_3_code 112 = .ok (.goto (-110), 3) := by decide +kernel
theorem d_FN_listFills_115 : decode prog_2_method_3_code 115 = .ok (.return_, 1) := by decide +kernel
def FN_listFills_43b (h0 : Nat) (v1 : Int32) (v2 : Int32) (v3 : Int32) (v4 : Int32) (I : jM) (K : jM → Prop) (X2 : Int32 × jM → Prop) (X43 : Int32 × jM → Prop) : Prop :=
  (((I (jr h0 0) 2) ≤ v4 → X2 ((v2 + 1), I)) ∧ (¬ (I (jr h0 0) 2) ≤ v4 → ((¬ ((v3 >>> (v4 &&& 31)) &&& (1 : Int32)) = (1 : Int32) → X43 ((v4 + 1), I)) ∧ (((v3 >>> (v4 &&& 31)) &&& (1 : Int32)) = (1 : Int32) → (((288 : Int32) ≤ (I h0 7) → X43 ((v4 + 1), I)) ∧ (¬ (288 : Int32) ≤ (I h0 7) → (vp_in (I h0 7) 288 ∧ (∀ I_1 : jM, I_1 = jwr I (jr h0 1) (I h0 7).toNatClampNeg (((32 : Int32) * v2) + v4) → (∀ I_2 : jM, I_2 = jwr I_1 h0 7 ((I_1 h0 7) + (1 : Int32)) → X43 ((v4 + 1), I_2))))))))))
def FN_listFills_43 (h0 : Nat) (v1 : Int32) (v2 : Int32) (v3 : Int32) (v4 : Int32) (I : jM) (K : jM → Prop) (X2 : Int32 × jM → Prop) : Prop :=
  lp (fun (X43 : Int32 × jM → Prop) (s : Int32 × jM) => FN_listFills_43b h0 v1 v2 v3 s.1 s.2 K X2 X43) (v4, I)
set_option maxRecDepth 100000 in
set_option maxHeartbeats 4000000 in
theorem kb_FN_listFills_43 {Z : jZ} {E : jE} (C : jC Z E prog_2_method_3_code 5 "OutOrder$FullNet" 0 0) (hr : (jZh Z).sig.returnType = none) (hE : E.2.2.2 = jLX)  (h0 : Nat) (v1 : Int32) (v2 : Int32) (v3 : Int32) (v4 : Int32) (I : jM) (g_h0 : jOB E 0 h0) {K : jM → Prop} {X2 : Int32 × jM → Prop} (hX2 : ∀ s : Int32 × jM, X2 s → jJ Z E 5 (jQv Z E K) 2 [(0, .ref (E.2.2.1 h0)), (1, .int v1), (2, .int s.1)] [] s.2) {X43 : Int32 × jM → Prop} (hX43 : ∀ s : Int32 × jM, X43 s → jJ Z E 5 (jQv Z E K) 43 [(0, .ref (E.2.2.1 h0)), (1, .int v1), (2, .int v2), (3, .int v3), (4, .int s.1)] [] s.2) (h : FN_listFills_43b h0 v1 v2 v3 v4 I K X2 X43) : jJ Z E 5 (jQv Z E K) 43 [(0, .ref (E.2.2.1 h0)), (1, .int v1), (2, .int v2), (3, .int v3), (4, .int v4)] [] I := by
  unfold FN_listFills_43b at h
  refine j_iload C d_FN_listFills_43 4 rfl ?_
  refine j_aload_n C d_FN_listFills_45 rfl 0 rfl ?_
  refine fg_FN_12 C g_h0 d_FN_listFills_46 ?_
  refine fg_FN_85 C (sh_FN_0 hE g_h0) d_FN_listFills_49 ?_
  refine j_icmp_ge C d_FN_listFills_52 (tgt := 109) (by decide) (fun c52 => ?_) (fun c52 => ?_)
  · have h := h.1 c52
    refine j_iinc C d_FN_listFills_109 2 rfl (v := (v2 + 1)) rfl (by decide) (lv' := [(2, .int (v2 + 1)), (0, .ref (E.2.2.1 h0)), (1, .int v1), (3, .int v3), (4, .int v4)]) rfl ?_
    refine j_goto C d_FN_listFills_112 (tgt := 2) (by decide) ?_
    refine j_lv [1, 2, 0] rfl ?_
    exact hX2 ((v2 + 1), I) h
  · have h := h.2 c52
    refine j_iload_n C d_FN_listFills_55 rfl 3 rfl ?_
    refine j_iload C d_FN_listFills_56 4 rfl ?_
    refine j_ishr C d_FN_listFills_58 ?_
    refine j_iconst C d_FN_listFills_59 ic_1 ?_
    refine j_iand C d_FN_listFills_60 ?_
    refine j_iconst C d_FN_listFills_61 ic_1 ?_
    refine j_icmp_ne C d_FN_listFills_62 (tgt := 103) (by decide) (fun c62 => ?_) (fun c62 => ?_)
    · have h := h.1 c62
      refine j_iinc C d_FN_listFills_103 4 rfl (v := (v4 + 1)) rfl (by decide) (lv' := [(4, .int (v4 + 1)), (0, .ref (E.2.2.1 h0)), (1, .int v1), (2, .int v2), (3, .int v3)]) rfl ?_
      refine j_goto C d_FN_listFills_106 (tgt := 43) (by decide) ?_
      refine j_lv [1, 2, 3, 4, 0] rfl ?_
      exact hX43 ((v4 + 1), I) h
    · have h := h.2 c62
      refine j_aload_n C d_FN_listFills_65 rfl 0 rfl ?_
      refine fg_FN_41 C g_h0 d_FN_listFills_66 ?_
      refine j_aload_n C d_FN_listFills_69 rfl 0 rfl ?_
      refine fg_FN_18 C g_h0 d_FN_listFills_70 ?_
      refine j_alen C (sh_FN_1 hE g_h0) (v := (288 : Int32)) (by decide) d_FN_listFills_73 ?_
      refine j_icmp_ge C d_FN_listFills_74 (tgt := 103) (by decide) (fun c74 => ?_) (fun c74 => ?_)
      · have h := h.1 c74
        refine j_iinc C d_FN_listFills_103 4 rfl (v := (v4 + 1)) rfl (by decide) (lv' := [(4, .int (v4 + 1)), (0, .ref (E.2.2.1 h0)), (1, .int v1), (2, .int v2), (3, .int v3)]) rfl ?_
        refine j_goto C d_FN_listFills_106 (tgt := 43) (by decide) ?_
        refine j_lv [1, 2, 3, 4, 0] rfl ?_
        exact hX43 ((v4 + 1), I) h
      · have h := h.2 c74
        refine j_aload_n C d_FN_listFills_77 rfl 0 rfl ?_
        refine fg_FN_18 C g_h0 d_FN_listFills_78 ?_
        refine j_aload_n C d_FN_listFills_81 rfl 0 rfl ?_
        refine fg_FN_41 C g_h0 d_FN_listFills_82 ?_
        refine j_bipush C d_FN_listFills_85 ib_32 ?_
        refine j_iload_n C d_FN_listFills_87 rfl 2 rfl ?_
        refine j_imul C d_FN_listFills_88 ?_
        refine j_iload C d_FN_listFills_89 4 rfl ?_
        refine j_iadd C d_FN_listFills_91 ?_
        obtain ⟨hi, h⟩ := h
        refine j_iastore C (sh_FN_1 hE g_h0) hi d_FN_listFills_92 ?_
        have h := h _ rfl
        generalize eI_1 : (jwr I (jr h0 1) (I h0 7).toNatClampNeg (((32 : Int32) * v2) + v4) : jM) = I_1 at h ⊢
        refine j_aload_n C d_FN_listFills_93 rfl 0 rfl ?_
        refine j_dup C d_FN_listFills_94 rfl ?_
        refine fg_FN_41 C g_h0 d_FN_listFills_95 ?_
        refine j_iconst C d_FN_listFills_98 ic_1 ?_
        refine j_iadd C d_FN_listFills_99 ?_
        refine fp_FN_41 C g_h0 d_FN_listFills_100 ?_
        have h := h _ rfl
        generalize eI_2 : (jwr I_1 h0 7 ((I_1 h0 7) + (1 : Int32)) : jM) = I_2 at h ⊢
        refine j_iinc C d_FN_listFills_103 4 rfl (v := (v4 + 1)) rfl (by decide) (lv' := [(4, .int (v4 + 1)), (0, .ref (E.2.2.1 h0)), (1, .int v1), (2, .int v2), (3, .int v3)]) rfl ?_
        refine j_goto C d_FN_listFills_106 (tgt := 43) (by decide) ?_
        refine j_lv [1, 2, 3, 4, 0] rfl ?_
        exact hX43 ((v4 + 1), I_2) h
theorem k_FN_listFills_43 {Z : jZ} {E : jE} (C : jC Z E prog_2_method_3_code 5 "OutOrder$FullNet" 0 0) (hr : (jZh Z).sig.returnType = none) (hE : E.2.2.2 = jLX)  (h0 : Nat) (v1 : Int32) (v2 : Int32) (v3 : Int32) (v4 : Int32) (I : jM) (g_h0 : jOB E 0 h0) {K : jM → Prop} {X2 : Int32 × jM → Prop} (hX2 : ∀ s : Int32 × jM, X2 s → jJ Z E 5 (jQv Z E K) 2 [(0, .ref (E.2.2.1 h0)), (1, .int v1), (2, .int s.1)] [] s.2) (h : FN_listFills_43 h0 v1 v2 v3 v4 I K X2) : jJ Z E 5 (jQv Z E K) 43 [(0, .ref (E.2.2.1 h0)), (1, .int v1), (2, .int v2), (3, .int v3), (4, .int v4)] [] I := by
  unfold FN_listFills_43 at h
  exact h (fun s => jJ Z E 5 (jQv Z E K) 43 [(0, .ref (E.2.2.1 h0)), (1, .int v1), (2, .int v2), (3, .int v3), (4, .int s.1)] [] s.2) (fun s hs => kb_FN_listFills_43 C hr hE h0 v1 v2 v3 s.1 s.2 g_h0 hX2 (fun s2 h2 => h2) hs)
def FN_listFills_2b (h0 : Nat) (v1 : Int32) (v2 : Int32) (I : jM) (K : jM → Prop) (X2 : Int32 × jM → Prop) : Prop :=
  (((I (jr h0 0) 2) ≤ v2 → K I) ∧ (¬ (I (jr h0 0) 2) ≤ v2 → ((¬ ((v1 >>> (v2 &&& 31)) &&& (1 : Int32)) = 0 → (vp_in v2 24 ∧ (∀ v3_1 : Int32, v3_1 = (v1 &&& ((I (jr (jr h0 0) 0) v2.toNatClampNeg) ^^^ (-1 : Int32))) → (∀ v4_2 : Int32, v4_2 = (v2 + (1 : Int32)) → FN_listFills_43 h0 v1 v2 v3_1 v4_2 I K X2)))) ∧ (((v1 >>> (v2 &&& 31)) &&& (1 : Int32)) = 0 → X2 ((v2 + 1), I)))))
def FN_listFills_2 (h0 : Nat) (v1 : Int32) (v2 : Int32) (I : jM) (K : jM → Prop) : Prop :=
  lp (fun (X2 : Int32 × jM → Prop) (s : Int32 × jM) => FN_listFills_2b h0 v1 s.1 s.2 K X2) (v2, I)
set_option maxRecDepth 100000 in
set_option maxHeartbeats 4000000 in
theorem kb_FN_listFills_2 {Z : jZ} {E : jE} (C : jC Z E prog_2_method_3_code 5 "OutOrder$FullNet" 0 0) (hr : (jZh Z).sig.returnType = none) (hE : E.2.2.2 = jLX)  (h0 : Nat) (v1 : Int32) (v2 : Int32) (I : jM) (g_h0 : jOB E 0 h0) {K : jM → Prop} {X2 : Int32 × jM → Prop} (hX2 : ∀ s : Int32 × jM, X2 s → jJ Z E 5 (jQv Z E K) 2 [(0, .ref (E.2.2.1 h0)), (1, .int v1), (2, .int s.1)] [] s.2) (h : FN_listFills_2b h0 v1 v2 I K X2) : jJ Z E 5 (jQv Z E K) 2 [(0, .ref (E.2.2.1 h0)), (1, .int v1), (2, .int v2)] [] I := by
  unfold FN_listFills_2b at h
  refine j_iload_n C d_FN_listFills_2 rfl 2 rfl ?_
  refine j_aload_n C d_FN_listFills_3 rfl 0 rfl ?_
  refine fg_FN_12 C g_h0 d_FN_listFills_4 ?_
  refine fg_FN_85 C (sh_FN_0 hE g_h0) d_FN_listFills_7 ?_
  refine j_icmp_ge C d_FN_listFills_10 (tgt := 115) (by decide) (fun c10 => ?_) (fun c10 => ?_)
  · have h := h.1 c10
    exact j_vret C hr d_FN_listFills_115 h
  · have h := h.2 c10
    refine j_iload_n C d_FN_listFills_13 rfl 1 rfl ?_
    refine j_iload_n C d_FN_listFills_14 rfl 2 rfl ?_
    refine j_ishr C d_FN_listFills_15 ?_
    refine j_iconst C d_FN_listFills_16 ic_1 ?_
    refine j_iand C d_FN_listFills_17 ?_
    refine j_if_ne C d_FN_listFills_18 (tgt := 24) (by decide) (fun c18 => ?_) (fun c18 => ?_)
    · have h := h.1 c18
      refine j_iload_n C d_FN_listFills_24 rfl 1 rfl ?_
      refine j_aload_n C d_FN_listFills_25 rfl 0 rfl ?_
      refine fg_FN_12 C g_h0 d_FN_listFills_26 ?_
      refine fg_FN_56 C (sh_FN_0 hE g_h0) d_FN_listFills_29 ?_
      refine j_iload_n C d_FN_listFills_32 rfl 2 rfl ?_
      obtain ⟨hi, h⟩ := h
      refine j_iaload C (sh_NE_0 hE (sh_FN_0 hE g_h0)) hi d_FN_listFills_33 ?_
      refine j_iconst C d_FN_listFills_34 ic_m1 ?_
      refine j_ixor C d_FN_listFills_35 ?_
      refine j_iand C d_FN_listFills_36 ?_
      refine j_topi (fun v3_1 ev3_1 => ?_)
      have h := h v3_1 ev3_1
      refine j_istore_n C d_FN_listFills_37 rfl (by decide) (lv' := [(3, .int v3_1), (0, .ref (E.2.2.1 h0)), (1, .int v1), (2, .int v2)]) rfl ?_
      refine j_iload_n C d_FN_listFills_38 rfl 3 rfl ?_
      refine j_iconst C d_FN_listFills_39 ic_1 ?_
      refine j_iadd C d_FN_listFills_40 ?_
      refine j_topi (fun v4_2 ev4_2 => ?_)
      have h := h v4_2 ev4_2
      refine j_istore C d_FN_listFills_41 (by decide) (lv' := [(4, .int v4_2), (3, .int v3_1), (0, .ref (E.2.2.1 h0)), (1, .int v1), (2, .int v2)]) rfl ?_
      refine j_lv [2, 3, 4, 1, 0] rfl ?_
      exact k_FN_listFills_43 C hr hE h0 v1 v2 v3_1 v4_2 I g_h0 hX2 h
    · have h := h.2 c18
      refine j_goto C d_FN_listFills_21 (tgt := 109) (by decide) ?_
      refine j_iinc C d_FN_listFills_109 2 rfl (v := (v2 + 1)) rfl (by decide) (lv' := [(2, .int (v2 + 1)), (0, .ref (E.2.2.1 h0)), (1, .int v1)]) rfl ?_
      refine j_goto C d_FN_listFills_112 (tgt := 2) (by decide) ?_
      refine j_lv [1, 2, 0] rfl ?_
      exact hX2 ((v2 + 1), I) h
theorem k_FN_listFills_2 {Z : jZ} {E : jE} (C : jC Z E prog_2_method_3_code 5 "OutOrder$FullNet" 0 0) (hr : (jZh Z).sig.returnType = none) (hE : E.2.2.2 = jLX)  (h0 : Nat) (v1 : Int32) (v2 : Int32) (I : jM) (g_h0 : jOB E 0 h0) {K : jM → Prop} (h : FN_listFills_2 h0 v1 v2 I K) : jJ Z E 5 (jQv Z E K) 2 [(0, .ref (E.2.2.1 h0)), (1, .int v1), (2, .int v2)] [] I := by
  unfold FN_listFills_2 at h
  exact h (fun s => jJ Z E 5 (jQv Z E K) 2 [(0, .ref (E.2.2.1 h0)), (1, .int v1), (2, .int s.1)] [] s.2) (fun s hs => kb_FN_listFills_2 C hr hE h0 v1 s.1 s.2 g_h0 (fun s2 h2 => h2) hs)
/-- OutOrder$FullNet.listFills(I)V -/
def FN_listFills (h0 : Nat) (v1 : Int32) (I : jM) (K : jM → Prop) : Prop :=
  FN_listFills_2 h0 v1 (0 : Int32) I K
set_option maxRecDepth 100000 in
set_option maxHeartbeats 4000000 in
theorem s_FN_listFills {l : Launch} {E : jE} (ok : jOK E) (hE : E.2.2.2 = jLX) {h0 : Nat} {v1 : Int32} (g_h0 : jOB E 0 h0) {I : jM} {K : jM → Prop} (h : FN_listFills h0 v1 I K) : jSv l E ⟨"OutOrder$FullNet", "listFills", "(I)V"⟩ prog_2_method_3_code 5 none 0 0 [.ref (E.2.2.1 h0), .int v1] I K := by
  refine jS_ofF (own := "OutOrder$FullNet") (by decide +kernel) rfl ok (Nat.le_of_ble_eq_true rfl) (fun Z _ C hr => ?_)
  show jJ Z E 5 (jQv Z E K) 0 [(0, .ref (E.2.2.1 h0)), (1, .int v1)] [] I
  unfold FN_listFills at h
  refine j_iconst C d_FN_listFills_0 ic_0 ?_
  refine j_istore_n C d_FN_listFills_1 rfl (by decide) (lv' := [(2, .int (0 : Int32)), (0, .ref (E.2.2.1 h0)), (1, .int v1)]) rfl ?_
  refine j_lv [1, 2, 0] rfl ?_
  exact k_FN_listFills_2 C hr hE h0 v1 (0 : Int32) I g_h0 h
theorem d_FN_makeGroups_0 : decode prog_2_method_6_code 0 = .ok (.aload_n 0, 1) := by decide +kernel
theorem d_FN_makeGroups_1 : decode prog_2_method_6_code 1 = .ok (.iconst 0, 1) := by decide +kernel
theorem d_FN_makeGroups_2 : decode prog_2_method_6_code 2 = .ok (.putfield 90, 3) := by decide +kernel
theorem d_FN_makeGroups_5 : decode prog_2_method_6_code 5 = .ok (.iconst 0, 1) := by decide +kernel
theorem d_FN_makeGroups_6 : decode prog_2_method_6_code 6 = .ok (.istore_n 2, 1) := by decide +kernel
theorem d_FN_makeGroups_7 : decode prog_2_method_6_code 7 = .ok (.iload_n 2, 1) := by decide +kernel
theorem d_FN_makeGroups_8 : decode prog_2_method_6_code 8 = .ok (.iload_n 1, 1) := by decide +kernel
theorem d_FN_makeGroups_9 : decode prog_2_method_6_code 9 = .ok (.if_icmp .ge 32, 3) := by decide +kernel
theorem d_FN_makeGroups_12 : decode prog_2_method_6_code 12 = .ok (.aload_n 0, 1) := by decide +kernel
theorem d_FN_makeGroups_13 : decode prog_2_method_6_code 13 = .ok (.iload_n 2, 1) := by decide +kernel
theorem d_FN_makeGroups_14 : decode prog_2_method_6_code 14 = .ok (.iload_n 1, 1) := by decide +kernel
theorem d_FN_makeGroups_15 : decode prog_2_method_6_code 15 = .ok (.invokevirtual 93, 3) := by decide +kernel
theorem d_FN_makeGroups_18 : decode prog_2_method_6_code 18 = .ok (.ifCond .ne 17, 3) := by decide +kernel
theorem d_FN_makeGroups_21 : decode prog_2_method_6_code 21 = .ok (.aload_n 0, 1) := by decide +kernel
theorem d_FN_makeGroups_22 : decode prog_2_method_6_code 22 = .ok (.aload_n 0, 1) := by decide +kernel
theorem d_FN_makeGroups_23 : decode prog_2_method_6_code 23 = .ok (.getfield 22, 3) := by decide +kernel
theorem d_FN_makeGroups_26 : decode prog_2_method_6_code 26 = .ok (.iload_n 2, 1) := by decide +kernel
theorem d_FN_makeGroups_27 : decode prog_2_method_6_code 27 = .ok (.iaload, 1) := by decide +kernel
theorem d_FN_makeGroups_28 : decode prog_2_method_6_code 28 = .ok (.iconst 1, 1) := by decide +kernel
theorem d_FN_makeGroups_29 : decode prog_2_method_6_code 29 = .ok (.iload_n 2, 1) := by decide +kernel
theorem d_FN_makeGroups_30 : decode prog_2_method_6_code 30 = .ok (.ishl, 1) := by decide +kernel
theorem d_FN_makeGroups_31 : decode prog_2_method_6_code 31 = .ok (.ior, 1) := by decide +kernel
theorem d_FN_makeGroups_32 : decode prog_2_method_6_code 32 = .ok (.invokevirtual 97, 3) := by decide +kernel
theorem d_FN_makeGroups_35 : decode prog_2_method_6_code 35 = .ok (.iinc 2 1, 3) := by decide +kernel
theorem d_FN_makeGroups_38 : decode prog_2_method_6_code 38 = .ok (.goto (-31), 3) := by decide +kernel
theorem d_FN_makeGroups_41 : decode prog_2_method_6_code 41 = .ok (.return_, 1) := by decide +kernel
def FN_makeGroups_7b (h0 : Nat) (v1 : Int32) (v2 : Int32) (I : jM) (K : jM → Prop) (X7 : Int32 × jM → Prop) : Prop :=
  ((v1 ≤ v2 → K I) ∧ (¬ v1 ≤ v2 → FN_isWithinAnother h0 v2 v1 I (fun r_1 => ((¬ r_1 = 0 → X7 ((v2 + 1), I)) ∧ (r_1 = 0 → (vp_in v2 24 ∧ FN_insertGroup h0 ((I (jr h0 2) v2.toNatClampNeg) ||| ((1 : Int32) <<< (v2 &&& 31))) I (fun I_3 => X7 ((v2 + 1), I_3))))))))
def FN_makeGroups_7 (h0 : Nat) (v1 : Int32) (v2 : Int32) (I : jM) (K : jM → Prop) : Prop :=
  lp (fun (X7 : Int32 × jM → Prop) (s : Int32 × jM) => FN_makeGroups_7b h0 v1 s.1 s.2 K X7) (v2, I)
set_option maxRecDepth 100000 in
set_option maxHeartbeats 4000000 in
theorem kb_FN_makeGroups_7 {Z : jZ} {E : jE} (C : jC Z E prog_2_method_6_code 3 "OutOrder$FullNet" 1 24) (hr : (jZh Z).sig.returnType = none) (hE : E.2.2.2 = jLX)  (h0 : Nat) (v1 : Int32) (v2 : Int32) (I : jM) (g_h0 : jOB E 0 h0) {K : jM → Prop} {X7 : Int32 × jM → Prop} (hX7 : ∀ s : Int32 × jM, X7 s → jJ Z E 3 (jQv Z E K) 7 [(0, .ref (E.2.2.1 h0)), (1, .int v1), (2, .int s.1)] [] s.2) (h : FN_makeGroups_7b h0 v1 v2 I K X7) : jJ Z E 3 (jQv Z E K) 7 [(0, .ref (E.2.2.1 h0)), (1, .int v1), (2, .int v2)] [] I := by
  unfold FN_makeGroups_7b at h
  refine j_iload_n C d_FN_makeGroups_7 rfl 2 rfl ?_
  refine j_iload_n C d_FN_makeGroups_8 rfl 1 rfl ?_
  refine j_icmp_ge C d_FN_makeGroups_9 (tgt := 41) (by decide) (fun c9 => ?_) (fun c9 => ?_)
  · have h := h.1 c9
    exact j_vret C hr d_FN_makeGroups_41 h
  · have h := h.2 c9
    refine j_aload_n C d_FN_makeGroups_12 rfl 0 rfl ?_
    refine j_iload_n C d_FN_makeGroups_13 rfl 2 rfl ?_
    refine j_iload_n C d_FN_makeGroups_14 rfl 1 rfl ?_
    refine j_callVi (As := [.int v2, .int v1]) C jcl_FN cw_FN_93 w_518 ws_17 g_h0 rfl rfl (by decide) (by decide) (Nat.le_of_ble_eq_true rfl) d_FN_makeGroups_15 (s_FN_isWithinAnother C.ok hE g_h0 h) (fun r_1 I2 h => ?_)
    obtain ⟨rfl, h⟩ := h
    refine j_if_ne C d_FN_makeGroups_18 (tgt := 35) (by decide) (fun c18 => ?_) (fun c18 => ?_)
    · have h := h.1 c18
      refine j_iinc C d_FN_makeGroups_35 2 rfl (v := (v2 + 1)) rfl (by decide) (lv' := [(2, .int (v2 + 1)), (0, .ref (E.2.2.1 h0)), (1, .int v1)]) rfl ?_
      refine j_goto C d_FN_makeGroups_38 (tgt := 7) (by decide) ?_
      refine j_lv [1, 2, 0] rfl ?_
      exact hX7 ((v2 + 1), I) h
    · have h := h.2 c18
      refine j_aload_n C d_FN_makeGroups_21 rfl 0 rfl ?_
      refine j_aload_n C d_FN_makeGroups_22 rfl 0 rfl ?_
      refine fg_FN_22 C g_h0 d_FN_makeGroups_23 ?_
      refine j_iload_n C d_FN_makeGroups_26 rfl 2 rfl ?_
      obtain ⟨hi, h⟩ := h
      refine j_iaload C (sh_FN_2 hE g_h0) hi d_FN_makeGroups_27 ?_
      refine j_iconst C d_FN_makeGroups_28 ic_1 ?_
      refine j_iload_n C d_FN_makeGroups_29 rfl 2 rfl ?_
      refine j_ishl C d_FN_makeGroups_30 ?_
      refine j_ior C d_FN_makeGroups_31 ?_
      refine j_callVv (As := [.int ((I (jr h0 2) v2.toNatClampNeg) ||| ((1 : Int32) <<< (v2 &&& 31)))]) C jcl_FN cw_FN_97 w_522 ws_18 g_h0 rfl rfl (by decide) (by decide) (Nat.le_of_ble_eq_true rfl) d_FN_makeGroups_32 (s_FN_insertGroup C.ok hE g_h0 h) (fun I_3 h => ?_)
      refine j_iinc C d_FN_makeGroups_35 2 rfl (v := (v2 + 1)) rfl (by decide) (lv' := [(2, .int (v2 + 1)), (0, .ref (E.2.2.1 h0)), (1, .int v1)]) rfl ?_
      refine j_goto C d_FN_makeGroups_38 (tgt := 7) (by decide) ?_
      refine j_lv [1, 2, 0] rfl ?_
      exact hX7 ((v2 + 1), I_3) h
theorem k_FN_makeGroups_7 {Z : jZ} {E : jE} (C : jC Z E prog_2_method_6_code 3 "OutOrder$FullNet" 1 24) (hr : (jZh Z).sig.returnType = none) (hE : E.2.2.2 = jLX)  (h0 : Nat) (v1 : Int32) (v2 : Int32) (I : jM) (g_h0 : jOB E 0 h0) {K : jM → Prop} (h : FN_makeGroups_7 h0 v1 v2 I K) : jJ Z E 3 (jQv Z E K) 7 [(0, .ref (E.2.2.1 h0)), (1, .int v1), (2, .int v2)] [] I := by
  unfold FN_makeGroups_7 at h
  exact h (fun s => jJ Z E 3 (jQv Z E K) 7 [(0, .ref (E.2.2.1 h0)), (1, .int v1), (2, .int s.1)] [] s.2) (fun s hs => kb_FN_makeGroups_7 C hr hE h0 v1 s.1 s.2 g_h0 (fun s2 h2 => h2) hs)
/-- OutOrder$FullNet.makeGroups(I)V -/
def FN_makeGroups (h0 : Nat) (v1 : Int32) (I : jM) (K : jM → Prop) : Prop :=
  (∀ I_1 : jM, I_1 = jwr I h0 8 (0 : Int32) → FN_makeGroups_7 h0 v1 (0 : Int32) I_1 K)
set_option maxRecDepth 100000 in
set_option maxHeartbeats 4000000 in
theorem s_FN_makeGroups {l : Launch} {E : jE} (ok : jOK E) (hE : E.2.2.2 = jLX) {h0 : Nat} {v1 : Int32} (g_h0 : jOB E 0 h0) {I : jM} {K : jM → Prop} (h : FN_makeGroups h0 v1 I K) : jSv l E ⟨"OutOrder$FullNet", "makeGroups", "(I)V"⟩ prog_2_method_6_code 3 none 1 24 [.ref (E.2.2.1 h0), .int v1] I K := by
  refine jS_ofF (own := "OutOrder$FullNet") (by decide +kernel) rfl ok (Nat.le_of_ble_eq_true rfl) (fun Z _ C hr => ?_)
  show jJ Z E 3 (jQv Z E K) 0 [(0, .ref (E.2.2.1 h0)), (1, .int v1)] [] I
  unfold FN_makeGroups at h
  refine j_aload_n C d_FN_makeGroups_0 rfl 0 rfl ?_
  refine j_iconst C d_FN_makeGroups_1 ic_0 ?_
  refine fp_FN_90 C g_h0 d_FN_makeGroups_2 ?_
  have h := h _ rfl
  generalize eI_1 : (jwr I h0 8 (0 : Int32) : jM) = I_1 at h ⊢
  refine j_iconst C d_FN_makeGroups_5 ic_0 ?_
  refine j_istore_n C d_FN_makeGroups_6 rfl (by decide) (lv' := [(2, .int (0 : Int32)), (0, .ref (E.2.2.1 h0)), (1, .int v1)]) rfl ?_
  refine j_lv [1, 2, 0] rfl ?_
  exact k_FN_makeGroups_7 C hr hE h0 v1 (0 : Int32) I_1 g_h0 h
theorem d_FN_makeTree_0 : decode prog_2_method_4_code 0 = .ok (.iconst 0, 1) := by decide +kernel
theorem d_FN_makeTree_1 : decode prog_2_method_4_code 1 = .ok (.istore_n 2, 1) := by decide +kernel
theorem d_FN_makeTree_2 : decode prog_2_method_4_code 2 = .ok (.iload_n 2, 1) := by decide +kernel
theorem d_FN_makeTree_3 : decode prog_2_method_4_code 3 = .ok (.aload_n 1, 1) := by decide +kernel
theorem d_FN_makeTree_4 : decode prog_2_method_4_code 4 = .ok (.getfield 48, 3) := by decide +kernel
theorem d_FN_makeTree_7 : decode prog_2_method_4_code 7 = .ok (.if_icmp .ge 16, 3) := by decide +kernel
theorem d_FN_makeTree_10 : decode prog_2_method_4_code 10 = .ok (.aload_n 0, 1) := by decide +kernel
theorem d_FN_makeTree_11 : decode prog_2_method_4_code 11 = .ok (.getfield 31, 3) := by decide +kernel
theorem d_FN_makeTree_14 : decode prog_2_method_4_code 14 = .ok (.iload_n 2, 1) := by decide +kernel
theorem d_FN_makeTree_15 : decode prog_2_method_4_code 15 = .ok (.iconst 0, 1) := by decide +kernel
theorem d_FN_makeTree_16 : decode prog_2_method_4_code 16 = .ok (.iastore, 1) := by decide +kernel
theorem d_FN_makeTree_17 : decode prog_2_method_4_code 17 = .ok (.iinc 2 1, 3) := by decide +kernel
theorem d_FN_makeTree_20 : decode prog_2_method_4_code 20 = .ok (.goto (-18), 3) := by decide +kernel
theorem d_FN_makeTree_23 : decode prog_2_method_4_code 23 = .ok (.aload_n 1, 1) := by decide +kernel
theorem d_FN_makeTree_24 : decode prog_2_method_4_code 24 = .ok (.getfield 48, 3) := by decide +kernel
theorem d_FN_makeTree_27 : decode prog_2_method_4_code 27 = .ok (.iconst 1, 1) := by decide +kernel
theorem d_FN_makeTree_28 : decode prog_2_method_4_code 28 = .ok (.isub, 1) := by decide +kernel
theorem d_FN_makeTree_29 : decode prog_2_method_4_code 29 = .ok (.istore_n 2, 1) := by decide +kernel
theorem d_FN_makeTree_30 : decode prog_2_method_4_code 30 = .ok (.iload_n 2, 1) := by decide +kernel
theorem d_FN_makeTree_31 : decode prog_2_method_4_code 31 = .ok (.ifCond .lt 76, 3) := by decide +kernel
theorem d_FN_makeTree_34 : decode prog_2_method_4_code 34 = .ok (.aload_n 1, 1) := by decide +kernel
theorem d_FN_makeTree_35 : decode prog_2_method_4_code 35 = .ok (.getfield 53, 3) := by decide +kernel
theorem d_FN_makeTree_38 : decode prog_2_method_4_code 38 = .ok (.iload_n 2, 1) := by decide +kernel
theorem d_FN_makeTree_39 : decode prog_2_method_4_code 39 = .ok (.iaload, 1) := by decide +kernel
theorem d_FN_makeTree_40 : decode prog_2_method_4_code 40 = .ok (.istore_n 3, 1) := by decide +kernel
theorem d_FN_makeTree_41 : decode prog_2_method_4_code 41 = .ok (.aload_n 0, 1) := by decide +kernel
theorem d_FN_makeTree_42 : decode prog_2_method_4_code 42 = .ok (.getfield 22, 3) := by decide +kernel
theorem d_FN_makeTree_45 : decode prog_2_method_4_code 45 = .ok (.iload_n 3, 1) := by decide +kernel
theorem d_FN_makeTree_46 : decode prog_2_method_4_code 46 = .ok (.iaload, 1) := by decide +kernel
theorem d_FN_makeTree_47 : decode prog_2_method_4_code 47 = .ok (.aload_n 1, 1) := by decide +kernel
theorem d_FN_makeTree_48 : decode prog_2_method_4_code 48 = .ok (.invokestatic 86, 3) := by decide +kernel
theorem d_FN_makeTree_51 : decode prog_2_method_4_code 51 = .ok (.istore 4, 2) := by decide +kernel
theorem d_FN_makeTree_53 : decode prog_2_method_4_code 53 = .ok (.aload_n 0, 1) := by decide +kernel
theorem d_FN_makeTree_54 : decode prog_2_method_4_code 54 = .ok (.getfield 25, 3) := by decide +kernel
theorem d_FN_makeTree_57 : decode prog_2_method_4_code 57 = .ok (.iload_n 3, 1) := by decide +kernel
theorem d_FN_makeTree_58 : decode prog_2_method_4_code 58 = .ok (.iload 4, 2) := by decide +kernel
theorem d_FN_makeTree_60 : decode prog_2_method_4_code 60 = .ok (.iastore, 1) := by decide +kernel
theorem d_FN_makeTree_61 : decode prog_2_method_4_code 61 = .ok (.aload_n 0, 1) := by decide +kernel
theorem d_FN_makeTree_62 : decode prog_2_method_4_code 62 = .ok (.getfield 28, 3) := by decide +kernel
theorem d_FN_makeTree_65 : decode prog_2_method_4_code 65 = .ok (.iload_n 3, 1) := by decide +kernel
theorem d_FN_makeTree_66 : decode prog_2_method_4_code 66 = .ok (.iconst 0, 1) := by decide +kernel
theorem d_FN_makeTree_67 : decode prog_2_method_4_code 67 = .ok (.iastore, 1) := by decide +kernel
theorem d_FN_makeTree_68 : decode prog_2_method_4_code 68 = .ok (.iload 4, 2) := by decide +kernel
theorem d_FN_makeTree_70 : decode prog_2_method_4_code 70 = .ok (.ifCond .lt 31, 3) := by decide +kernel
theorem d_FN_makeTree_73 : decode prog_2_method_4_code 73 = .ok (.aload_n 0, 1) := by decide +kernel
theorem d_FN_makeTree_74 : decode prog_2_method_4_code 74 = .ok (.getfield 28, 3) := by decide +kernel
theorem d_FN_makeTree_77 : decode prog_2_method_4_code 77 = .ok (.iload_n 3, 1) := by decide +kernel
theorem d_FN_makeTree_78 : decode prog_2_method_4_code 78 = .ok (.aload_n 0, 1) := by decide +kernel
theorem d_FN_makeTree_79 : decode prog_2_method_4_code 79 = .ok (.getfield 28, 3) := by decide +kernel
theorem d_FN_makeTree_82 : decode prog_2_method_4_code 82 = .ok (.iload 4, 2) := by decide +kernel
theorem d_FN_makeTree_84 : decode prog_2_method_4_code 84 = .ok (.iaload, 1) := by decide +kernel
theorem d_FN_makeTree_85 : decode prog_2_method_4_code 85 = .ok (.iconst 1, 1) := by decide +kernel
theorem d_FN_makeTree_86 : decode prog_2_method_4_code 86 = .ok (.iadd, 1) := by decide +kernel
theorem d_FN_makeTree_87 : decode prog_2_method_4_code 87 = .ok (.iastore, 1) := by decide +kernel
theorem d_FN_makeTree_88 : decode prog_2_method_4_code 88 = .ok (.aload_n 0, 1) := by decide +kernel
theorem d_FN_makeTree_89 : decode prog_2_method_4_code 89 = .ok (.getfield 31, 3) := by decide +kernel
theorem d_FN_makeTree_92 : decode prog_2_method_4_code 92 = .ok (.iload 4, 2) := by decide +kernel
theorem d_FN_makeTree_94 : decode prog_2_method_4_code 94 = .ok (.dup2, 1) := by decide +kernel
theorem d_FN_makeTree_95 : decode prog_2_method_4_code 95 = .ok (.iaload, 1) := by decide +kernel
theorem d_FN_makeTree_96 : decode prog_2_method_4_code 96 = .ok (.iconst 1, 1) := by decide +kernel
theorem d_FN_makeTree_97 : decode prog_2_method_4_code 97 = .ok (.iload_n 3, 1) := by decide +kernel
theorem d_FN_makeTree_98 : decode prog_2_method_4_code 98 = .ok (.ishl, 1) := by decide +kernel
theorem d_FN_makeTree_99 : decode prog_2_method_4_code 99 = .ok (.ior, 1) := by decide +kernel
theorem d_FN_makeTree_100 : decode prog_2_method_4_code 100 = .ok (.iastore, 1) := by decide +kernel
theorem d_FN_makeTree_101 : decode prog_2_method_4_code 101 = .ok (.iinc 2 (-1), 3) := by decide +kernel
theorem d_FN_makeTree_104 : decode prog_2_method_4_code 104 = .ok (.goto (-74), 3) := by decide +kernel
theorem d_FN_makeTree_107 : decode prog_2_method_4_code 107 = .ok (.return_, 1) := by decide +kernel
def FN_makeTree_30b (h0 : Nat) (h1 : Nat) (v2 : Int32) (I : jM) (K : jM → Prop) (X30 : Int32 × jM → Prop) : Prop :=
  ((v2 < 0 → K I) ∧ (¬ v2 < 0 → (vp_in v2 24 ∧ (∀ v3_1 : Int32, v3_1 = (I (jr h1 0) v2.toNatClampNeg) → (vp_in v3_1 24 ∧ FN_firstOf (I (jr h0 2) v3_1.toNatClampNeg) h1 I (fun r_2 => (vp_in v3_1 24 ∧ (∀ I_3 : jM, I_3 = jwr I (jr h0 3) v3_1.toNatClampNeg r_2 → (vp_in v3_1 24 ∧ (∀ I_4 : jM, I_4 = jwr I_3 (jr h0 4) v3_1.toNatClampNeg (0 : Int32) → ((r_2 < 0 → X30 ((v2 + (-1)), I_4)) ∧ (¬ r_2 < 0 → (vp_in r_2 24 ∧ (vp_in v3_1 24 ∧ (∀ I_5 : jM, I_5 = jwr I_4 (jr h0 4) v3_1.toNatClampNeg ((I_4 (jr h0 4) r_2.toNatClampNeg) + (1 : Int32)) → (vp_in r_2 24 ∧ (vp_in r_2 24 ∧ (∀ I_6 : jM, I_6 = jwr I_5 (jr h0 5) r_2.toNatClampNeg ((I_5 (jr h0 5) r_2.toNatClampNeg) ||| ((1 : Int32) <<< (v3_1 &&& 31))) → X30 ((v2 + (-1)), I_6)))))))))))))))))))
def FN_makeTree_30 (h0 : Nat) (h1 : Nat) (v2 : Int32) (I : jM) (K : jM → Prop) : Prop :=
  lp (fun (X30 : Int32 × jM → Prop) (s : Int32 × jM) => FN_makeTree_30b h0 h1 s.1 s.2 K X30) (v2, I)
set_option maxRecDepth 100000 in
set_option maxHeartbeats 4000000 in
theorem kb_FN_makeTree_30 {Z : jZ} {E : jE} (C : jC Z E prog_2_method_4_code 5 "OutOrder$FullNet" 1 22) (hr : (jZh Z).sig.returnType = none) (hE : E.2.2.2 = jLX)  (h0 : Nat) (h1 : Nat) (v2 : Int32) (I : jM) (g_h0 : jOB E 0 h0) (g_h1 : jOB E 6 h1) {K : jM → Prop} {X30 : Int32 × jM → Prop} (hX30 : ∀ s : Int32 × jM, X30 s → jJ Z E 5 (jQv Z E K) 30 [(0, .ref (E.2.2.1 h0)), (1, .ref (E.2.2.1 h1)), (2, .int s.1)] [] s.2) (h : FN_makeTree_30b h0 h1 v2 I K X30) : jJ Z E 5 (jQv Z E K) 30 [(0, .ref (E.2.2.1 h0)), (1, .ref (E.2.2.1 h1)), (2, .int v2)] [] I := by
  unfold FN_makeTree_30b at h
  refine j_iload_n C d_FN_makeTree_30 rfl 2 rfl ?_
  refine j_if_lt C d_FN_makeTree_31 (tgt := 107) (by decide) (fun c31 => ?_) (fun c31 => ?_)
  · have h := h.1 c31
    exact j_vret C hr d_FN_makeTree_107 h
  · have h := h.2 c31
    refine j_aload_n C d_FN_makeTree_34 rfl 1 rfl ?_
    refine fg_FN_53 C g_h1 d_FN_makeTree_35 ?_
    refine j_iload_n C d_FN_makeTree_38 rfl 2 rfl ?_
    obtain ⟨hi, h⟩ := h
    refine j_iaload C (sh_RO_0 hE g_h1) hi d_FN_makeTree_39 ?_
    refine j_topi (fun v3_1 ev3_1 => ?_)
    have h := h v3_1 ev3_1
    refine j_istore_n C d_FN_makeTree_40 rfl (by decide) (lv' := [(3, .int v3_1), (0, .ref (E.2.2.1 h0)), (1, .ref (E.2.2.1 h1)), (2, .int v2)]) rfl ?_
    refine j_aload_n C d_FN_makeTree_41 rfl 1 rfl ?_
    refine fg_FN_22 C g_h0 d_FN_makeTree_42 ?_
    refine j_iload_n C d_FN_makeTree_45 rfl 0 rfl ?_
    obtain ⟨hi, h⟩ := h
    refine j_iaload C (sh_FN_2 hE g_h0) hi d_FN_makeTree_46 ?_
    refine j_aload_n C d_FN_makeTree_47 rfl 2 rfl ?_
    refine j_callSi (As := [.int (I (jr h0 2) v3_1.toNatClampNeg), .ref (E.2.2.1 h1)]) C cw_FN_86 w_510 rfl rfl (by decide) (by decide) (Nat.le_of_ble_eq_true rfl) d_FN_makeTree_48 (s_FN_firstOf C.ok hE g_h1 h) (fun r_2 I2 h => ?_)
    obtain ⟨rfl, h⟩ := h
    refine j_istore C d_FN_makeTree_51 (by decide) (lv' := [(4, .int r_2), (3, .int v3_1), (0, .ref (E.2.2.1 h0)), (1, .ref (E.2.2.1 h1)), (2, .int v2)]) rfl ?_
    refine j_aload_n C d_FN_makeTree_53 rfl 2 rfl ?_
    refine fg_FN_25 C g_h0 d_FN_makeTree_54 ?_
    refine j_iload_n C d_FN_makeTree_57 rfl 1 rfl ?_
    refine j_iload C d_FN_makeTree_58 0 rfl ?_
    obtain ⟨hi, h⟩ := h
    refine j_iastore C (sh_FN_3 hE g_h0) hi d_FN_makeTree_60 ?_
    have h := h _ rfl
    generalize eI_3 : (jwr I (jr h0 3) v3_1.toNatClampNeg r_2 : jM) = I_3 at h ⊢
    refine j_aload_n C d_FN_makeTree_61 rfl 2 rfl ?_
    refine fg_FN_28 C g_h0 d_FN_makeTree_62 ?_
    refine j_iload_n C d_FN_makeTree_65 rfl 1 rfl ?_
    refine j_iconst C d_FN_makeTree_66 ic_0 ?_
    obtain ⟨hi, h⟩ := h
    refine j_iastore C (sh_FN_4 hE g_h0) hi d_FN_makeTree_67 ?_
    have h := h _ rfl
    generalize eI_4 : (jwr I_3 (jr h0 4) v3_1.toNatClampNeg (0 : Int32) : jM) = I_4 at h ⊢
    refine j_iload C d_FN_makeTree_68 0 rfl ?_
    refine j_if_lt C d_FN_makeTree_70 (tgt := 101) (by decide) (fun c70 => ?_) (fun c70 => ?_)
    · have h := h.1 c70
      refine j_iinc C d_FN_makeTree_101 4 rfl (v := (v2 + (-1))) rfl (by decide) (lv' := [(2, .int (v2 + (-1))), (4, .int r_2), (3, .int v3_1), (0, .ref (E.2.2.1 h0)), (1, .ref (E.2.2.1 h1))]) rfl ?_
      refine j_goto C d_FN_makeTree_104 (tgt := 30) (by decide) ?_
      refine j_lv [3, 4, 0] rfl ?_
      exact hX30 ((v2 + (-1)), I_4) h
    · have h := h.2 c70
      refine j_aload_n C d_FN_makeTree_73 rfl 2 rfl ?_
      refine fg_FN_28 C g_h0 d_FN_makeTree_74 ?_
      refine j_iload_n C d_FN_makeTree_77 rfl 1 rfl ?_
      refine j_aload_n C d_FN_makeTree_78 rfl 2 rfl ?_
      refine fg_FN_28 C g_h0 d_FN_makeTree_79 ?_
      refine j_iload C d_FN_makeTree_82 0 rfl ?_
      obtain ⟨hi, h⟩ := h
      refine j_iaload C (sh_FN_4 hE g_h0) hi d_FN_makeTree_84 ?_
      refine j_iconst C d_FN_makeTree_85 ic_1 ?_
      refine j_iadd C d_FN_makeTree_86 ?_
      obtain ⟨hi, h⟩ := h
      refine j_iastore C (sh_FN_4 hE g_h0) hi d_FN_makeTree_87 ?_
      have h := h _ rfl
      generalize eI_5 : (jwr I_4 (jr h0 4) v3_1.toNatClampNeg ((I_4 (jr h0 4) r_2.toNatClampNeg) + (1 : Int32)) : jM) = I_5 at h ⊢
      refine j_aload_n C d_FN_makeTree_88 rfl 2 rfl ?_
      refine fg_FN_31 C g_h0 d_FN_makeTree_89 ?_
      refine j_iload C d_FN_makeTree_92 0 rfl ?_
      refine j_dup2 C d_FN_makeTree_94 rfl rfl ?_
      obtain ⟨hi, h⟩ := h
      refine j_iaload C (sh_FN_5 hE g_h0) hi d_FN_makeTree_95 ?_
      refine j_iconst C d_FN_makeTree_96 ic_1 ?_
      refine j_iload_n C d_FN_makeTree_97 rfl 1 rfl ?_
      refine j_ishl C d_FN_makeTree_98 ?_
      refine j_ior C d_FN_makeTree_99 ?_
      obtain ⟨hi, h⟩ := h
      refine j_iastore C (sh_FN_5 hE g_h0) hi d_FN_makeTree_100 ?_
      have h := h _ rfl
      generalize eI_6 : (jwr I_5 (jr h0 5) r_2.toNatClampNeg ((I_5 (jr h0 5) r_2.toNatClampNeg) ||| ((1 : Int32) <<< (v3_1 &&& 31))) : jM) = I_6 at h ⊢
      refine j_iinc C d_FN_makeTree_101 4 rfl (v := (v2 + (-1))) rfl (by decide) (lv' := [(2, .int (v2 + (-1))), (4, .int r_2), (3, .int v3_1), (0, .ref (E.2.2.1 h0)), (1, .ref (E.2.2.1 h1))]) rfl ?_
      refine j_goto C d_FN_makeTree_104 (tgt := 30) (by decide) ?_
      refine j_lv [3, 4, 0] rfl ?_
      exact hX30 ((v2 + (-1)), I_6) h
theorem k_FN_makeTree_30 {Z : jZ} {E : jE} (C : jC Z E prog_2_method_4_code 5 "OutOrder$FullNet" 1 22) (hr : (jZh Z).sig.returnType = none) (hE : E.2.2.2 = jLX)  (h0 : Nat) (h1 : Nat) (v2 : Int32) (I : jM) (g_h0 : jOB E 0 h0) (g_h1 : jOB E 6 h1) {K : jM → Prop} (h : FN_makeTree_30 h0 h1 v2 I K) : jJ Z E 5 (jQv Z E K) 30 [(0, .ref (E.2.2.1 h0)), (1, .ref (E.2.2.1 h1)), (2, .int v2)] [] I := by
  unfold FN_makeTree_30 at h
  exact h (fun s => jJ Z E 5 (jQv Z E K) 30 [(0, .ref (E.2.2.1 h0)), (1, .ref (E.2.2.1 h1)), (2, .int s.1)] [] s.2) (fun s hs => kb_FN_makeTree_30 C hr hE h0 h1 s.1 s.2 g_h0 g_h1 (fun s2 h2 => h2) hs)
def FN_makeTree_2b (h0 : Nat) (h1 : Nat) (v2 : Int32) (I : jM) (K : jM → Prop) (X2 : Int32 × jM → Prop) : Prop :=
  (((I h1 2) ≤ v2 → (∀ v2_1 : Int32, v2_1 = ((I h1 2) - (1 : Int32)) → FN_makeTree_30 h0 h1 v2_1 I K)) ∧ (¬ (I h1 2) ≤ v2 → (vp_in v2 24 ∧ (∀ I_2 : jM, I_2 = jwr I (jr h0 5) v2.toNatClampNeg (0 : Int32) → X2 ((v2 + 1), I_2)))))
def FN_makeTree_2 (h0 : Nat) (h1 : Nat) (v2 : Int32) (I : jM) (K : jM → Prop) : Prop :=
  lp (fun (X2 : Int32 × jM → Prop) (s : Int32 × jM) => FN_makeTree_2b h0 h1 s.1 s.2 K X2) (v2, I)
set_option maxRecDepth 100000 in
set_option maxHeartbeats 4000000 in
theorem kb_FN_makeTree_2 {Z : jZ} {E : jE} (C : jC Z E prog_2_method_4_code 5 "OutOrder$FullNet" 1 22) (hr : (jZh Z).sig.returnType = none) (hE : E.2.2.2 = jLX)  (h0 : Nat) (h1 : Nat) (v2 : Int32) (I : jM) (g_h0 : jOB E 0 h0) (g_h1 : jOB E 6 h1) {K : jM → Prop} {X2 : Int32 × jM → Prop} (hX2 : ∀ s : Int32 × jM, X2 s → jJ Z E 5 (jQv Z E K) 2 [(0, .ref (E.2.2.1 h0)), (1, .ref (E.2.2.1 h1)), (2, .int s.1)] [] s.2) (h : FN_makeTree_2b h0 h1 v2 I K X2) : jJ Z E 5 (jQv Z E K) 2 [(0, .ref (E.2.2.1 h0)), (1, .ref (E.2.2.1 h1)), (2, .int v2)] [] I := by
  unfold FN_makeTree_2b at h
  refine j_iload_n C d_FN_makeTree_2 rfl 2 rfl ?_
  refine j_aload_n C d_FN_makeTree_3 rfl 1 rfl ?_
  refine fg_FN_48 C g_h1 d_FN_makeTree_4 ?_
  refine j_icmp_ge C d_FN_makeTree_7 (tgt := 23) (by decide) (fun c7 => ?_) (fun c7 => ?_)
  · have h := h.1 c7
    refine j_aload_n C d_FN_makeTree_23 rfl 1 rfl ?_
    refine fg_FN_48 C g_h1 d_FN_makeTree_24 ?_
    refine j_iconst C d_FN_makeTree_27 ic_1 ?_
    refine j_isub C d_FN_makeTree_28 ?_
    refine j_topi (fun v2_1 ev2_1 => ?_)
    have h := h v2_1 ev2_1
    refine j_istore_n C d_FN_makeTree_29 rfl (by decide) (lv' := [(2, .int v2_1), (0, .ref (E.2.2.1 h0)), (1, .ref (E.2.2.1 h1))]) rfl ?_
    refine j_lv [1, 2, 0] rfl ?_
    exact k_FN_makeTree_30 C hr hE h0 h1 v2_1 I g_h0 g_h1 h
  · have h := h.2 c7
    refine j_aload_n C d_FN_makeTree_10 rfl 0 rfl ?_
    refine fg_FN_31 C g_h0 d_FN_makeTree_11 ?_
    refine j_iload_n C d_FN_makeTree_14 rfl 2 rfl ?_
    refine j_iconst C d_FN_makeTree_15 ic_0 ?_
    obtain ⟨hi, h⟩ := h
    refine j_iastore C (sh_FN_5 hE g_h0) hi d_FN_makeTree_16 ?_
    have h := h _ rfl
    generalize eI_2 : (jwr I (jr h0 5) v2.toNatClampNeg (0 : Int32) : jM) = I_2 at h ⊢
    refine j_iinc C d_FN_makeTree_17 2 rfl (v := (v2 + 1)) rfl (by decide) (lv' := [(2, .int (v2 + 1)), (0, .ref (E.2.2.1 h0)), (1, .ref (E.2.2.1 h1))]) rfl ?_
    refine j_goto C d_FN_makeTree_20 (tgt := 2) (by decide) ?_
    refine j_lv [1, 2, 0] rfl ?_
    exact hX2 ((v2 + 1), I_2) h
theorem k_FN_makeTree_2 {Z : jZ} {E : jE} (C : jC Z E prog_2_method_4_code 5 "OutOrder$FullNet" 1 22) (hr : (jZh Z).sig.returnType = none) (hE : E.2.2.2 = jLX)  (h0 : Nat) (h1 : Nat) (v2 : Int32) (I : jM) (g_h0 : jOB E 0 h0) (g_h1 : jOB E 6 h1) {K : jM → Prop} (h : FN_makeTree_2 h0 h1 v2 I K) : jJ Z E 5 (jQv Z E K) 2 [(0, .ref (E.2.2.1 h0)), (1, .ref (E.2.2.1 h1)), (2, .int v2)] [] I := by
  unfold FN_makeTree_2 at h
  exact h (fun s => jJ Z E 5 (jQv Z E K) 2 [(0, .ref (E.2.2.1 h0)), (1, .ref (E.2.2.1 h1)), (2, .int s.1)] [] s.2) (fun s hs => kb_FN_makeTree_2 C hr hE h0 h1 s.1 s.2 g_h0 g_h1 (fun s2 h2 => h2) hs)
/-- OutOrder$FullNet.makeTree(LOutOrder$Row;)V -/
def FN_makeTree (h0 : Nat) (h1 : Nat) (I : jM) (K : jM → Prop) : Prop :=
  FN_makeTree_2 h0 h1 (0 : Int32) I K
set_option maxRecDepth 100000 in
set_option maxHeartbeats 4000000 in
theorem s_FN_makeTree {l : Launch} {E : jE} (ok : jOK E) (hE : E.2.2.2 = jLX) {h0 : Nat} {h1 : Nat} (g_h0 : jOB E 0 h0) (g_h1 : jOB E 6 h1) {I : jM} {K : jM → Prop} (h : FN_makeTree h0 h1 I K) : jSv l E ⟨"OutOrder$FullNet", "makeTree", "(LOutOrder$Row;)V"⟩ prog_2_method_4_code 5 none 1 22 [.ref (E.2.2.1 h0), .ref (E.2.2.1 h1)] I K := by
  refine jS_ofF (own := "OutOrder$FullNet") (by decide +kernel) rfl ok (Nat.le_of_ble_eq_true rfl) (fun Z _ C hr => ?_)
  show jJ Z E 5 (jQv Z E K) 0 [(0, .ref (E.2.2.1 h0)), (1, .ref (E.2.2.1 h1))] [] I
  unfold FN_makeTree at h
  refine j_iconst C d_FN_makeTree_0 ic_0 ?_
  refine j_istore_n C d_FN_makeTree_1 rfl (by decide) (lv' := [(2, .int (0 : Int32)), (0, .ref (E.2.2.1 h0)), (1, .ref (E.2.2.1 h1))]) rfl ?_
  refine j_lv [1, 2, 0] rfl ?_
  exact k_FN_makeTree_2 C hr hE h0 h1 (0 : Int32) I g_h0 g_h1 h
theorem d_FN_reckon_0 : decode prog_2_method_2_code 0 = .ok (.aload_n 0, 1) := by decide +kernel
theorem d_FN_reckon_1 : decode prog_2_method_2_code 1 = .ok (.getfield 12, 3) := by decide +kernel
theorem d_FN_reckon_4 : decode prog_2_method_2_code 4 = .ok (.aload_n 1, 1) := by decide +kernel
theorem d_FN_reckon_5 : decode prog_2_method_2_code 5 = .ok (.invokevirtual 37, 3) := by decide +kernel
theorem d_FN_reckon_8 : decode prog_2_method_2_code 8 = .ok (.aload_n 0, 1) := by decide +kernel
theorem d_FN_reckon_9 : decode prog_2_method_2_code 9 = .ok (.iconst 0, 1) := by decide +kernel
theorem d_FN_reckon_10 : decode prog_2_method_2_code 10 = .ok (.putfield 41, 3) := by decide +kernel
theorem d_FN_reckon_13 : decode prog_2_method_2_code 13 = .ok (.aload_n 0, 1) := by decide +kernel
theorem d_FN_reckon_14 : decode prog_2_method_2_code 14 = .ok (.iconst 0, 1) := by decide +kernel
theorem d_FN_reckon_15 : decode prog_2_method_2_code 15 = .ok (.putfield 45, 3) := by decide +kernel
theorem d_FN_reckon_18 : decode prog_2_method_2_code 18 = .ok (.iconst 0, 1) := by decide +kernel
theorem d_FN_reckon_19 : decode prog_2_method_2_code 19 = .ok (.istore_n 3, 1) := by decide +kernel
theorem d_FN_reckon_20 : decode prog_2_method_2_code 20 = .ok (.iload_n 3, 1) := by decide +kernel
theorem d_FN_reckon_21 : decode prog_2_method_2_code 21 = .ok (.aload_n 2, 1) := by decide +kernel
theorem d_FN_reckon_22 : decode prog_2_method_2_code 22 = .ok (.getfield 48, 3) := by decide +kernel
theorem d_FN_reckon_25 : decode prog_2_method_2_code 25 = .ok (.if_icmp .ge 75, 3) := by decide +kernel
theorem d_FN_reckon_28 : decode prog_2_method_2_code 28 = .ok (.aload_n 2, 1) := by decide +kernel
theorem d_FN_reckon_29 : decode prog_2_method_2_code 29 = .ok (.getfield 53, 3) := by decide +kernel
theorem d_FN_reckon_32 : decode prog_2_method_2_code 32 = .ok (.iload_n 3, 1) := by decide +kernel
theorem d_FN_reckon_33 : decode prog_2_method_2_code 33 = .ok (.iaload, 1) := by decide +kernel
theorem d_FN_reckon_34 : decode prog_2_method_2_code 34 = .ok (.istore 4, 2) := by decide +kernel
theorem d_FN_reckon_36 : decode prog_2_method_2_code 36 = .ok (.aload_n 0, 1) := by decide +kernel
theorem d_FN_reckon_37 : decode prog_2_method_2_code 37 = .ok (.getfield 22, 3) := by decide +kernel
theorem d_FN_reckon_40 : decode prog_2_method_2_code 40 = .ok (.iload 4, 2) := by decide +kernel
theorem d_FN_reckon_42 : decode prog_2_method_2_code 42 = .ok (.aload_n 0, 1) := by decide +kernel
theorem d_FN_reckon_43 : decode prog_2_method_2_code 43 = .ok (.getfield 12, 3) := by decide +kernel
theorem d_FN_reckon_46 : decode prog_2_method_2_code 46 = .ok (.getfield 56, 3) := by decide +kernel
theorem d_FN_reckon_49 : decode prog_2_method_2_code 49 = .ok (.iload 4, 2) := by decide +kernel
theorem d_FN_reckon_51 : decode prog_2_method_2_code 51 = .ok (.iaload, 1) := by decide +kernel
theorem d_FN_reckon_52 : decode prog_2_method_2_code 52 = .ok (.iastore, 1) := by decide +kernel
theorem d_FN_reckon_53 : decode prog_2_method_2_code 53 = .ok (.aload_n 0, 1) := by decide +kernel
theorem d_FN_reckon_54 : decode prog_2_method_2_code 54 = .ok (.aload_n 0, 1) := by decide +kernel
theorem d_FN_reckon_55 : decode prog_2_method_2_code 55 = .ok (.getfield 45, 3) := by decide +kernel
theorem d_FN_reckon_58 : decode prog_2_method_2_code 58 = .ok (.aload_n 0, 1) := by decide +kernel
theorem d_FN_reckon_59 : decode prog_2_method_2_code 59 = .ok (.getfield 22, 3) := by decide +kernel
theorem d_FN_reckon_62 : decode prog_2_method_2_code 62 = .ok (.iload 4, 2) := by decide +kernel
theorem d_FN_reckon_64 : decode prog_2_method_2_code 64 = .ok (.iaload, 1) := by decide +kernel
theorem d_FN_reckon_65 : decode prog_2_method_2_code 65 = .ok (.invokestatic 59, 3) := by decide +kernel
theorem d_FN_reckon_68 : decode prog_2_method_2_code 68 = .ok (.invokestatic 65, 3) := by decide +kernel
theorem d_FN_reckon_71 : decode prog_2_method_2_code 71 = .ok (.putfield 45, 3) := by decide +kernel
theorem d_FN_reckon_74 : decode prog_2_method_2_code 74 = .ok (.aload_n 0, 1) := by decide +kernel
theorem d_FN_reckon_75 : decode prog_2_method_2_code 75 = .ok (.aload_n 0, 1) := by decide +kernel
theorem d_FN_reckon_76 : decode prog_2_method_2_code 76 = .ok (.getfield 22, 3) := by decide +kernel
theorem d_FN_reckon_79 : decode prog_2_method_2_code 79 = .ok (.iload 4, 2) := by decide +kernel
theorem d_FN_reckon_81 : decode prog_2_method_2_code 81 = .ok (.iaload, 1) := by decide +kernel
theorem d_FN_reckon_82 : decode prog_2_method_2_code 82 = .ok (.invokevirtual 71, 3) := by decide +kernel
theorem d_FN_reckon_85 : decode prog_2_method_2_code 85 = .ok (.aload_n 0, 1) := by decide +kernel
theorem d_FN_reckon_86 : decode prog_2_method_2_code 86 = .ok (.getfield 12, 3) := by decide +kernel
theorem d_FN_reckon_89 : decode prog_2_method_2_code 89 = .ok (.iload 4, 2) := by decide +kernel
theorem d_FN_reckon_91 : decode prog_2_method_2_code 91 = .ok (.invokevirtual 75, 3) := by decide +kernel
theorem d_FN_reckon_94 : decode prog_2_method_2_code 94 = .ok (.iinc 3 1, 3) := by decide +kernel
theorem d_FN_reckon_97 : decode prog_2_method_2_code 97 = .ok (.goto (-77), 3) := by decide +kernel
theorem d_FN_reckon_100 : decode prog_2_method_2_code 100 = .ok (.aload_n 0, 1) := by decide +kernel
theorem d_FN_reckon_101 : decode prog_2_method_2_code 101 = .ok (.aload_n 2, 1) := by decide +kernel
theorem d_FN_reckon_102 : decode prog_2_method_2_code 102 = .ok (.invokevirtual 78, 3) := by decide +kernel
theorem d_FN_reckon_105 : decode prog_2_method_2_code 105 = .ok (.aload_n 0, 1) := by decide +kernel
theorem d_FN_reckon_106 : decode prog_2_method_2_code 106 = .ok (.aload_n 2, 1) := by decide +kernel
theorem d_FN_reckon_107 : decode prog_2_method_2_code 107 = .ok (.getfield 48, 3) := by decide +kernel
theorem d_FN_reckon_110 : decode prog_2_method_2_code 110 = .ok (.invokevirtual 82, 3) := by decide +kernel
theorem d_FN_reckon_113 : decode prog_2_method_2_code 113 = .ok (.return_, 1) := by decide +kernel
def FN_reckon_20b (h0 : Nat) (h2 : Nat) (v3 : Int32) (I : jM) (K : jM → Prop) (X20 : Int32 × jM → Prop) : Prop :=
  (((I h2 2) ≤ v3 → FN_makeTree h0 h2 I (fun I_2 => FN_makeGroups h0 (I_2 h2 2) I_2 (fun I_4 => K I_4))) ∧ (¬ (I h2 2) ≤ v3 → (vp_in v3 24 ∧ (∀ v4_5 : Int32, v4_5 = (I (jr h2 0) v3.toNatClampNeg) → (vp_in v4_5 24 ∧ (vp_in v4_5 24 ∧ (∀ I_6 : jM, I_6 = jwr I (jr h0 2) v4_5.toNatClampNeg (I (jr (jr h0 0) 0) v4_5.toNatClampNeg) → (vp_in v4_5 24 ∧ JI_bitCount (I_6 (jr h0 2) v4_5.toNatClampNeg) I_6 (fun r_7 => JM_max (I_6 h0 9) r_7 I_6 (fun r_8 => (∀ I_9 : jM, I_9 = jwr I_6 h0 9 r_8 → (vp_in v4_5 24 ∧ FN_listFills h0 (I_9 (jr h0 2) v4_5.toNatClampNeg) I_9 (fun I_11 => NE_remove (jr h0 0) v4_5 I_11 (fun I_13 => X20 ((v3 + 1), I_13)))))))))))))))
def FN_reckon_20 (h0 : Nat) (h2 : Nat) (v3 : Int32) (I : jM) (K : jM → Prop) : Prop :=
  lp (fun (X20 : Int32 × jM → Prop) (s : Int32 × jM) => FN_reckon_20b h0 h2 s.1 s.2 K X20) (v3, I)
set_option maxRecDepth 100000 in
set_option maxHeartbeats 4000000 in
theorem kb_FN_reckon_20 {Z : jZ} {E : jE} (C : jC Z E prog_2_method_2_code 5 "OutOrder$FullNet" 2 47) (hr : (jZh Z).sig.returnType = none) (hE : E.2.2.2 = jLX)  (h0 : Nat) (h2 : Nat) (v3 : Int32) (I : jM) (g_h0 : jOB E 0 h0) (g_h2 : jOB E 6 h2) {K : jM → Prop} {X20 : Int32 × jM → Prop} (hX20 : ∀ s : Int32 × jM, X20 s → jJ Z E 5 (jQv Z E K) 20 [(0, .ref (E.2.2.1 h0)), (2, .ref (E.2.2.1 h2)), (3, .int s.1)] [] s.2) (h : FN_reckon_20b h0 h2 v3 I K X20) : jJ Z E 5 (jQv Z E K) 20 [(0, .ref (E.2.2.1 h0)), (2, .ref (E.2.2.1 h2)), (3, .int v3)] [] I := by
  unfold FN_reckon_20b at h
  refine j_iload_n C d_FN_reckon_20 rfl 2 rfl ?_
  refine j_aload_n C d_FN_reckon_21 rfl 1 rfl ?_
  refine fg_FN_48 C g_h2 d_FN_reckon_22 ?_
  refine j_icmp_ge C d_FN_reckon_25 (tgt := 100) (by decide) (fun c25 => ?_) (fun c25 => ?_)
  · have h := h.1 c25
    refine j_aload_n C d_FN_reckon_100 rfl 0 rfl ?_
    refine j_aload_n C d_FN_reckon_101 rfl 1 rfl ?_
    refine j_callVv (As := [.ref (E.2.2.1 h2)]) C jcl_FN cw_FN_78 w_507 ws_15 g_h0 rfl rfl (by decide) (by decide) (Nat.le_of_ble_eq_true rfl) d_FN_reckon_102 (s_FN_makeTree C.ok hE g_h0 g_h2 h) (fun I_2 h => ?_)
    refine j_aload_n C d_FN_reckon_105 rfl 0 rfl ?_
    refine j_aload_n C d_FN_reckon_106 rfl 1 rfl ?_
    refine fg_FN_48 C g_h2 d_FN_reckon_107 ?_
    refine j_callVv (As := [.int (I_2 h2 2)]) C jcl_FN cw_FN_82 w_514 ws_16 g_h0 rfl rfl (by decide) (by decide) (Nat.le_of_ble_eq_true rfl) d_FN_reckon_110 (s_FN_makeGroups C.ok hE g_h0 h) (fun I_4 h => ?_)
    exact j_vret C hr d_FN_reckon_113 h
  · have h := h.2 c25
    refine j_aload_n C d_FN_reckon_28 rfl 1 rfl ?_
    refine fg_FN_53 C g_h2 d_FN_reckon_29 ?_
    refine j_iload_n C d_FN_reckon_32 rfl 2 rfl ?_
    obtain ⟨hi, h⟩ := h
    refine j_iaload C (sh_RO_0 hE g_h2) hi d_FN_reckon_33 ?_
    refine j_topi (fun v4_5 ev4_5 => ?_)
    have h := h v4_5 ev4_5
    refine j_istore C d_FN_reckon_34 (by decide) (lv' := [(4, .int v4_5), (0, .ref (E.2.2.1 h0)), (2, .ref (E.2.2.1 h2)), (3, .int v3)]) rfl ?_
    refine j_aload_n C d_FN_reckon_36 rfl 1 rfl ?_
    refine fg_FN_22 C g_h0 d_FN_reckon_37 ?_
    refine j_iload C d_FN_reckon_40 0 rfl ?_
    refine j_aload_n C d_FN_reckon_42 rfl 1 rfl ?_
    refine fg_FN_12 C g_h0 d_FN_reckon_43 ?_
    refine fg_FN_56 C (sh_FN_0 hE g_h0) d_FN_reckon_46 ?_
    refine j_iload C d_FN_reckon_49 0 rfl ?_
    obtain ⟨hi, h⟩ := h
    refine j_iaload C (sh_NE_0 hE (sh_FN_0 hE g_h0)) hi d_FN_reckon_51 ?_
    obtain ⟨hi, h⟩ := h
    refine j_iastore C (sh_FN_2 hE g_h0) hi d_FN_reckon_52 ?_
    have h := h _ rfl
    generalize eI_6 : (jwr I (jr h0 2) v4_5.toNatClampNeg (I (jr (jr h0 0) 0) v4_5.toNatClampNeg) : jM) = I_6 at h ⊢
    refine j_aload_n C d_FN_reckon_53 rfl 1 rfl ?_
    refine j_aload_n C d_FN_reckon_54 rfl 1 rfl ?_
    refine fg_FN_45 C g_h0 d_FN_reckon_55 ?_
    refine j_aload_n C d_FN_reckon_58 rfl 1 rfl ?_
    refine fg_FN_22 C g_h0 d_FN_reckon_59 ?_
    refine j_iload C d_FN_reckon_62 0 rfl ?_
    obtain ⟨hi, h⟩ := h
    refine j_iaload C (sh_FN_2 hE g_h0) hi d_FN_reckon_64 ?_
    refine j_callSi (As := [.int (I_6 (jr h0 2) v4_5.toNatClampNeg)]) C cw_FN_59 w_412 rfl rfl (by decide) (by decide) (Nat.le_of_ble_eq_true rfl) d_FN_reckon_65 (s_JI_bitCount C.ok  h) (fun r_7 I2 h => ?_)
    obtain ⟨rfl, h⟩ := h
    refine j_callSi (As := [.int (I_6 h0 9), .int r_7]) C cw_FN_65 w_445 rfl rfl (by decide) (by decide) (Nat.le_of_ble_eq_true rfl) d_FN_reckon_68 (s_JM_max C.ok  h) (fun r_8 I2 h => ?_)
    obtain ⟨rfl, h⟩ := h
    refine fp_FN_45 C g_h0 d_FN_reckon_71 ?_
    have h := h _ rfl
    generalize eI_9 : (jwr I_6 h0 9 r_8 : jM) = I_9 at h ⊢
    refine j_aload_n C d_FN_reckon_74 rfl 1 rfl ?_
    refine j_aload_n C d_FN_reckon_75 rfl 1 rfl ?_
    refine fg_FN_22 C g_h0 d_FN_reckon_76 ?_
    refine j_iload C d_FN_reckon_79 0 rfl ?_
    obtain ⟨hi, h⟩ := h
    refine j_iaload C (sh_FN_2 hE g_h0) hi d_FN_reckon_81 ?_
    refine j_callVv (As := [.int (I_9 (jr h0 2) v4_5.toNatClampNeg)]) C jcl_FN cw_FN_71 w_502 ws_14 g_h0 rfl rfl (by decide) (by decide) (Nat.le_of_ble_eq_true rfl) d_FN_reckon_82 (s_FN_listFills C.ok hE g_h0 h) (fun I_11 h => ?_)
    refine j_aload_n C d_FN_reckon_85 rfl 1 rfl ?_
    refine fg_FN_12 C g_h0 d_FN_reckon_86 ?_
    refine j_iload C d_FN_reckon_89 0 rfl ?_
    refine j_callVv (As := [.int v4_5]) C jcl_NE cw_FN_75 w_466 w_467 (sh_FN_0 hE g_h0) rfl rfl (by decide) (by decide) (Nat.le_of_ble_eq_true rfl) d_FN_reckon_91 (s_NE_remove C.ok hE (sh_FN_0 hE g_h0) h) (fun I_13 h => ?_)
    refine j_iinc C d_FN_reckon_94 3 rfl (v := (v3 + 1)) rfl (by decide) (lv' := [(3, .int (v3 + 1)), (4, .int v4_5), (0, .ref (E.2.2.1 h0)), (2, .ref (E.2.2.1 h2))]) rfl ?_
    refine j_goto C d_FN_reckon_97 (tgt := 20) (by decide) ?_
    refine j_lv [2, 3, 0] rfl ?_
    exact hX20 ((v3 + 1), I_13) h
theorem k_FN_reckon_20 {Z : jZ} {E : jE} (C : jC Z E prog_2_method_2_code 5 "OutOrder$FullNet" 2 47) (hr : (jZh Z).sig.returnType = none) (hE : E.2.2.2 = jLX)  (h0 : Nat) (h2 : Nat) (v3 : Int32) (I : jM) (g_h0 : jOB E 0 h0) (g_h2 : jOB E 6 h2) {K : jM → Prop} (h : FN_reckon_20 h0 h2 v3 I K) : jJ Z E 5 (jQv Z E K) 20 [(0, .ref (E.2.2.1 h0)), (2, .ref (E.2.2.1 h2)), (3, .int v3)] [] I := by
  unfold FN_reckon_20 at h
  exact h (fun s => jJ Z E 5 (jQv Z E K) 20 [(0, .ref (E.2.2.1 h0)), (2, .ref (E.2.2.1 h2)), (3, .int s.1)] [] s.2) (fun s hs => kb_FN_reckon_20 C hr hE h0 h2 s.1 s.2 g_h0 g_h2 (fun s2 h2 => h2) hs)
/-- OutOrder$FullNet.reckon(LOutOrder$Table;LOutOrder$Row;)V -/
def FN_reckon (h0 : Nat) (h1 : Nat) (h2 : Nat) (I : jM) (K : jM → Prop) : Prop :=
  NE_take (jr h0 0) h1 I (fun I_2 => (∀ I_3 : jM, I_3 = jwr I_2 h0 7 (0 : Int32) → (∀ I_4 : jM, I_4 = jwr I_3 h0 9 (0 : Int32) → FN_reckon_20 h0 h2 (0 : Int32) I_4 K)))
set_option maxRecDepth 100000 in
set_option maxHeartbeats 4000000 in
theorem s_FN_reckon {l : Launch} {E : jE} (ok : jOK E) (hE : E.2.2.2 = jLX) {h0 : Nat} {h1 : Nat} {h2 : Nat} (g_h0 : jOB E 0 h0) (g_h1 : jOB E 8 h1) (g_h2 : jOB E 6 h2) {I : jM} {K : jM → Prop} (h : FN_reckon h0 h1 h2 I K) : jSv l E ⟨"OutOrder$FullNet", "reckon", "(LOutOrder$Table;LOutOrder$Row;)V"⟩ prog_2_method_2_code 5 none 2 47 [.ref (E.2.2.1 h0), .ref (E.2.2.1 h1), .ref (E.2.2.1 h2)] I K := by
  refine jS_ofF (own := "OutOrder$FullNet") (by decide +kernel) rfl ok (Nat.le_of_ble_eq_true rfl) (fun Z _ C hr => ?_)
  show jJ Z E 5 (jQv Z E K) 0 [(0, .ref (E.2.2.1 h0)), (1, .ref (E.2.2.1 h1)), (2, .ref (E.2.2.1 h2))] [] I
  unfold FN_reckon at h
  refine j_aload_n C d_FN_reckon_0 rfl 0 rfl ?_
  refine fg_FN_12 C g_h0 d_FN_reckon_1 ?_
  refine j_aload_n C d_FN_reckon_4 rfl 1 rfl ?_
  refine j_callVv (As := [.ref (E.2.2.1 h1)]) C jcl_NE cw_FN_37 w_301 w_302 (sh_FN_0 hE g_h0) rfl rfl (by decide) (by decide) (Nat.le_of_ble_eq_true rfl) d_FN_reckon_5 (s_NE_take C.ok hE (sh_FN_0 hE g_h0) g_h1 h) (fun I_2 h => ?_)
  refine j_aload_n C d_FN_reckon_8 rfl 0 rfl ?_
  refine j_iconst C d_FN_reckon_9 ic_0 ?_
  refine fp_FN_41 C g_h0 d_FN_reckon_10 ?_
  have h := h _ rfl
  generalize eI_3 : (jwr I_2 h0 7 (0 : Int32) : jM) = I_3 at h ⊢
  refine j_aload_n C d_FN_reckon_13 rfl 0 rfl ?_
  refine j_iconst C d_FN_reckon_14 ic_0 ?_
  refine fp_FN_45 C g_h0 d_FN_reckon_15 ?_
  have h := h _ rfl
  generalize eI_4 : (jwr I_3 h0 9 (0 : Int32) : jM) = I_4 at h ⊢
  refine j_iconst C d_FN_reckon_18 ic_0 ?_
  refine j_istore_n C d_FN_reckon_19 rfl (by decide) (lv' := [(3, .int (0 : Int32)), (0, .ref (E.2.2.1 h0)), (1, .ref (E.2.2.1 h1)), (2, .ref (E.2.2.1 h2))]) rfl ?_
  refine j_lv [1, 3, 0] rfl ?_
  exact k_FN_reckon_20 C hr hE h0 h2 (0 : Int32) I_4 g_h0 g_h2 h
