theorem d_MO_reduce_0 : decode prog_5_method_3_code 0 = .ok (.aload_n 0, 1) := by decide +kernel
theorem d_MO_reduce_1 : decode prog_5_method_3_code 1 = .ok (.getfield 9, 3) := by decide +kernel
theorem d_MO_reduce_4 : decode prog_5_method_3_code 4 = .ok (.iconst 1, 1) := by decide +kernel
theorem d_MO_reduce_5 : decode prog_5_method_3_code 5 = .ok (.if_icmp .le 14, 3) := by decide +kernel
theorem d_MO_reduce_8 : decode prog_5_method_3_code 8 = .ok (.iload_n 1, 1) := by decide +kernel
theorem d_MO_reduce_9 : decode prog_5_method_3_code 9 = .ok (.aload_n 0, 1) := by decide +kernel
theorem d_MO_reduce_10 : decode prog_5_method_3_code 10 = .ok (.getfield 9, 3) := by decide +kernel
theorem d_MO_reduce_13 : decode prog_5_method_3_code 13 = .ok (.invokestatic 15, 3) := by decide +kernel
theorem d_MO_reduce_16 : decode prog_5_method_3_code 16 = .ok (.goto 4, 3) := by decide +kernel
theorem d_MO_reduce_19 : decode prog_5_method_3_code 19 = .ok (.iconst 0, 1) := by decide +kernel
theorem d_MO_reduce_20 : decode prog_5_method_3_code 20 = .ok (.ireturn, 1) := by decide +kernel
/-- OutOrder$Modulus.reduce(I)I -/
def MO_reduce (h0 : Nat) (v1 : Int32) (I : jM) (K : Int32 → Prop) : Prop :=
  (((I h0 0) ≤ (1 : Int32) → K (0 : Int32)) ∧ (¬ (I h0 0) ≤ (1 : Int32) → JM_floorMod v1 (I h0 0) I (fun r_1 => K r_1)))
set_option maxRecDepth 100000 in
set_option maxHeartbeats 4000000 in
theorem s_MO_reduce {l : Launch} {E : jE} (ok : jOK E)  {h0 : Nat} {v1 : Int32} (g_h0 : jOB E 3 h0) {I : jM} {K : Int32 → Prop} (h : MO_reduce h0 v1 I K) : jSi l E ⟨"OutOrder$Modulus", "reduce", "(I)I"⟩ prog_5_method_3_code 2 (some .int) 1 22 [.ref (E.2.2.1 h0), .int v1] I (fun r I2 => I = I2 ∧ K r) := by
  refine jS_ofF (own := "OutOrder$Modulus") (by decide +kernel) rfl ok (Nat.le_of_ble_eq_true rfl) (fun Z _ C hr => ?_)
  show jJ Z E 2 (jQi Z E (fun r I2 => I = I2 ∧ K r)) 0 [(0, .ref (E.2.2.1 h0)), (1, .int v1)] [] I
  unfold MO_reduce at h
  refine j_aload_n C d_MO_reduce_0 rfl 0 rfl ?_
  refine fg_MO_9 C g_h0 d_MO_reduce_1 ?_
  refine j_iconst C d_MO_reduce_4 ic_1 ?_
  refine j_icmp_le C d_MO_reduce_5 (tgt := 19) (by decide) (fun c5 => ?_) (fun c5 => ?_)
  · have h := h.1 c5
    refine j_iconst C d_MO_reduce_19 ic_0 ?_
    exact j_iret C hr d_MO_reduce_20 ⟨rfl, h⟩
  · have h := h.2 c5
    refine j_iload_n C d_MO_reduce_8 rfl 1 rfl ?_
    refine j_aload_n C d_MO_reduce_9 rfl 0 rfl ?_
    refine fg_MO_9 C g_h0 d_MO_reduce_10 ?_
    refine j_callSi (As := [.int v1, .int (I h0 0)]) C cw_MO_15 w_374 rfl rfl (by decide) (by decide) (Nat.le_of_ble_eq_true rfl) d_MO_reduce_13 (s_JM_floorMod C.ok  h) (fun r_1 I2 h => ?_)
    obtain ⟨rfl, h⟩ := h
    refine j_goto C d_MO_reduce_16 (tgt := 20) (by decide) ?_
    exact j_iret C hr d_MO_reduce_20 ⟨rfl, h⟩
theorem d_MO_times_0 : decode prog_5_method_4_code 0 = .ok (.aload_n 0, 1) := by decide +kernel
theorem d_MO_times_1 : decode prog_5_method_4_code 1 = .ok (.iload_n 1, 1) := by decide +kernel
theorem d_MO_times_2 : decode prog_5_method_4_code 2 = .ok (.iload_n 2, 1) := by decide +kernel
theorem d_MO_times_3 : decode prog_5_method_4_code 3 = .ok (.imul, 1) := by decide +kernel
theorem d_MO_times_4 : decode prog_5_method_4_code 4 = .ok (.invokevirtual 21, 3) := by decide +kernel
theorem d_MO_times_7 : decode prog_5_method_4_code 7 = .ok (.ireturn, 1) := by decide +kernel
/-- OutOrder$Modulus.times(II)I -/
def MO_times (h0 : Nat) (v1 : Int32) (v2 : Int32) (I : jM) (K : Int32 → Prop) : Prop :=
  MO_reduce h0 (v1 * v2) I (fun r_1 => K r_1)
set_option maxRecDepth 100000 in
set_option maxHeartbeats 4000000 in
theorem s_MO_times {l : Launch} {E : jE} (ok : jOK E)  {h0 : Nat} {v1 : Int32} {v2 : Int32} (g_h0 : jOB E 3 h0) {I : jM} {K : Int32 → Prop} (h : MO_times h0 v1 v2 I K) : jSi l E ⟨"OutOrder$Modulus", "times", "(II)I"⟩ prog_5_method_4_code 3 (some .int) 2 43 [.ref (E.2.2.1 h0), .int v1, .int v2] I (fun r I2 => I = I2 ∧ K r) := by
  refine jS_ofF (own := "OutOrder$Modulus") (by decide +kernel) rfl ok (Nat.le_of_ble_eq_true rfl) (fun Z _ C hr => ?_)
  show jJ Z E 3 (jQi Z E (fun r I2 => I = I2 ∧ K r)) 0 [(0, .ref (E.2.2.1 h0)), (1, .int v1), (2, .int v2)] [] I
  unfold MO_times at h
  refine j_aload_n C d_MO_times_0 rfl 0 rfl ?_
  refine j_iload_n C d_MO_times_1 rfl 1 rfl ?_
  refine j_iload_n C d_MO_times_2 rfl 2 rfl ?_
  refine j_imul C d_MO_times_3 ?_
  refine j_callVi (As := [.int (v1 * v2)]) C jcl_MO cw_MO_21 w_370 w_371 g_h0 rfl rfl (by decide) (by decide) (Nat.le_of_ble_eq_true rfl) d_MO_times_4 (s_MO_reduce C.ok g_h0 h) (fun r_1 I2 h => ?_)
  obtain ⟨rfl, h⟩ := h
  exact j_iret C hr d_MO_times_7 ⟨rfl, h⟩
theorem d_MO_inverse_0 : decode prog_5_method_5_code 0 = .ok (.iconst 1, 1) := by decide +kernel
theorem d_MO_inverse_1 : decode prog_5_method_5_code 1 = .ok (.istore_n 2, 1) := by decide +kernel
theorem d_MO_inverse_2 : decode prog_5_method_5_code 2 = .ok (.iload_n 1, 1) := by decide +kernel
theorem d_MO_inverse_3 : decode prog_5_method_5_code 3 = .ok (.istore_n 3, 1) := by decide +kernel
theorem d_MO_inverse_4 : decode prog_5_method_5_code 4 = .ok (.aload_n 0, 1) := by decide +kernel
theorem d_MO_inverse_5 : decode prog_5_method_5_code 5 = .ok (.getfield 9, 3) := by decide +kernel
theorem d_MO_inverse_8 : decode prog_5_method_5_code 8 = .ok (.iconst 2, 1) := by decide +kernel
theorem d_MO_inverse_9 : decode prog_5_method_5_code 9 = .ok (.isub, 1) := by decide +kernel
theorem d_MO_inverse_10 : decode prog_5_method_5_code 10 = .ok (.istore 4, 2) := by decide +kernel
theorem d_MO_inverse_12 : decode prog_5_method_5_code 12 = .ok (.iload 4, 2) := by decide +kernel
theorem d_MO_inverse_14 : decode prog_5_method_5_code 14 = .ok (.ifCond .le 34, 3) := by decide +kernel
theorem d_MO_inverse_17 : decode prog_5_method_5_code 17 = .ok (.iload 4, 2) := by decide +kernel
theorem d_MO_inverse_19 : decode prog_5_method_5_code 19 = .ok (.iconst 1, 1) := by decide +kernel
theorem d_MO_inverse_20 : decode prog_5_method_5_code 20 = .ok (.iand, 1) := by decide +kernel
theorem d_MO_inverse_21 : decode prog_5_method_5_code 21 = .ok (.iconst 1, 1) := by decide +kernel
theorem d_MO_inverse_22 : decode prog_5_method_5_code 22 = .ok (.if_icmp .ne 10, 3) := by decide +kernel
theorem d_MO_inverse_25 : decode prog_5_method_5_code 25 = .ok (.aload_n 0, 1) := by decide +kernel
theorem d_MO_inverse_26 : decode prog_5_method_5_code 26 = .ok (.iload_n 2, 1) := by decide +kernel
theorem d_MO_inverse_27 : decode prog_5_method_5_code 27 = .ok (.iload_n 3, 1) := by decide +kernel
theorem d_MO_inverse_28 : decode prog_5_method_5_code 28 = .ok (.invokevirtual 25, 3) := by decide +kernel
theorem d_MO_inverse_31 : decode prog_5_method_5_code 31 = .ok (.istore_n 2, 1) := by decide +kernel
theorem d_MO_inverse_32 : decode prog_5_method_5_code 32 = .ok (.aload_n 0, 1) := by decide +kernel
theorem d_MO_inverse_33 : decode prog_5_method_5_code 33 = .ok (.iload_n 3, 1) := by decide +kernel
theorem d_MO_inverse_34 : decode prog_5_method_5_code 34 = .ok (.iload_n 3, 1) := by decide +kernel
theorem d_MO_inverse_35 : decode prog_5_method_5_code 35 = .ok (.invokevirtual 25, 3) := by decide +kernel
theorem d_MO_inverse_38 : decode prog_5_method_5_code 38 = .ok (.istore_n 3, 1) := by decide +kernel
theorem d_MO_inverse_39 : decode prog_5_method_5_code 39 = .ok (.iload 4, 2) := by decide +kernel
theorem d_MO_inverse_41 : decode prog_5_method_5_code 41 = .ok (.iconst 1, 1) := by decide +kernel
theorem d_MO_inverse_42 : decode prog_5_method_5_code 42 = .ok (.ishr, 1) := by decide +kernel
theorem d_MO_inverse_43 : decode prog_5_method_5_code 43 = .ok (.istore 4, 2) := by decide +kernel
theorem d_MO_inverse_45 : decode prog_5_method_5_code 45 = .ok (.goto (-33), 3) := by decide +kernel
theorem d_MO_inverse_48 : decode prog_5_method_5_code 48 = .ok (.iload_n 1, 1) := by decide +kernel
theorem d_MO_inverse_49 : decode prog_5_method_5_code 49 = .ok (.ifCond .ne 7, 3) := by decide +kernel
theorem d_MO_inverse_52 : decode prog_5_method_5_code 52 = .ok (.iconst 0, 1) := by decide +kernel
theorem d_MO_inverse_53 : decode prog_5_method_5_code 53 = .ok (.goto 4, 3) := by decide +kernel
theorem d_MO_inverse_56 : decode prog_5_method_5_code 56 = .ok (.iload_n 2, 1) := by decide +kernel
theorem d_MO_inverse_57 : decode prog_5_method_5_code 57 = .ok (.ireturn, 1) := by decide +kernel
def MO_inverse_32 (h0 : Nat) (v1 : Int32) (v2 : Int32) (v3 : Int32) (v4 : Int32) (I : jM) (K : Int32 → Prop) (X12 : Int32 × Int32 × Int32 → Prop) : Prop :=
  MO_times h0 v3 v3 I (fun r_1 => (∀ v4_2 : Int32, v4_2 = (v4 >>> ((1 : Int32) &&& 31)) → X12 (v2, r_1, v4_2)))
set_option maxRecDepth 100000 in
set_option maxHeartbeats 4000000 in
theorem k_MO_inverse_32 {Z : jZ} {E : jE} (C : jC Z E prog_5_method_5_code 5 "OutOrder$Modulus" 3 65) (hr : (jZh Z).sig.returnType = (some .int))  (h0 : Nat) (v1 : Int32) (v2 : Int32) (v3 : Int32) (v4 : Int32) (I : jM) (g_h0 : jOB E 3 h0) {K : Int32 → Prop} {X12 : Int32 × Int32 × Int32 → Prop} (hX12 : ∀ s : Int32 × Int32 × Int32, X12 s → jJ Z E 5 (jQi Z E (fun r I2 => I = I2 ∧ K r)) 12 [(0, .ref (E.2.2.1 h0)), (1, .int v1), (2, .int s.1), (3, .int s.2.1), (4, .int s.2.2)] [] I) (h : MO_inverse_32 h0 v1 v2 v3 v4 I K X12) : jJ Z E 5 (jQi Z E (fun r I2 => I = I2 ∧ K r)) 32 [(0, .ref (E.2.2.1 h0)), (1, .int v1), (2, .int v2), (3, .int v3), (4, .int v4)] [] I := by
  unfold MO_inverse_32 at h
  refine j_aload_n C d_MO_inverse_32 rfl 0 rfl ?_
  refine j_iload_n C d_MO_inverse_33 rfl 3 rfl ?_
  refine j_iload_n C d_MO_inverse_34 rfl 3 rfl ?_
  refine j_callVi (As := [.int v3, .int v3]) C jcl_MO cw_MO_25 w_634 w_635 g_h0 rfl rfl (by decide) (by decide) (Nat.le_of_ble_eq_true rfl) d_MO_inverse_35 (s_MO_times C.ok g_h0 h) (fun r_1 I2 h => ?_)
  obtain ⟨rfl, h⟩ := h
  refine j_istore_n C d_MO_inverse_38 rfl (by decide) (lv' := [(3, .int r_1), (0, .ref (E.2.2.1 h0)), (1, .int v1), (2, .int v2), (4, .int v4)]) rfl ?_
  refine j_iload C d_MO_inverse_39 4 rfl ?_
  refine j_iconst C d_MO_inverse_41 ic_1 ?_
  refine j_ishr C d_MO_inverse_42 ?_
  refine j_topi (fun v4_2 ev4_2 => ?_)
  have h := h v4_2 ev4_2
  refine j_istore C d_MO_inverse_43 (by decide) (lv' := [(4, .int v4_2), (3, .int r_1), (0, .ref (E.2.2.1 h0)), (1, .int v1), (2, .int v2)]) rfl ?_
  refine j_goto C d_MO_inverse_45 (tgt := 12) (by decide) ?_
  refine j_lv [2, 3, 4, 1, 0] rfl ?_
  exact hX12 (v2, r_1, v4_2) h
def MO_inverse_12b (h0 : Nat) (v1 : Int32) (v2 : Int32) (v3 : Int32) (v4 : Int32) (I : jM) (K : Int32 → Prop) (X12 : Int32 × Int32 × Int32 → Prop) : Prop :=
  ((v4 ≤ 0 → ((¬ v1 = 0 → K v2) ∧ (v1 = 0 → K (0 : Int32)))) ∧ (¬ v4 ≤ 0 → ((¬ (v4 &&& (1 : Int32)) = (1 : Int32) → MO_inverse_32 h0 v1 v2 v3 v4 I K X12) ∧ ((v4 &&& (1 : Int32)) = (1 : Int32) → MO_times h0 v2 v3 I (fun r_1 => MO_inverse_32 h0 v1 r_1 v3 v4 I K X12)))))
def MO_inverse_12 (h0 : Nat) (v1 : Int32) (v2 : Int32) (v3 : Int32) (v4 : Int32) (I : jM) (K : Int32 → Prop) : Prop :=
  lp (fun (X12 : Int32 × Int32 × Int32 → Prop) (s : Int32 × Int32 × Int32) => MO_inverse_12b h0 v1 s.1 s.2.1 s.2.2 I K X12) (v2, v3, v4)
set_option maxRecDepth 100000 in
set_option maxHeartbeats 4000000 in
theorem kb_MO_inverse_12 {Z : jZ} {E : jE} (C : jC Z E prog_5_method_5_code 5 "OutOrder$Modulus" 3 65) (hr : (jZh Z).sig.returnType = (some .int))  (h0 : Nat) (v1 : Int32) (v2 : Int32) (v3 : Int32) (v4 : Int32) (I : jM) (g_h0 : jOB E 3 h0) {K : Int32 → Prop} {X12 : Int32 × Int32 × Int32 → Prop} (hX12 : ∀ s : Int32 × Int32 × Int32, X12 s → jJ Z E 5 (jQi Z E (fun r I2 => I = I2 ∧ K r)) 12 [(0, .ref (E.2.2.1 h0)), (1, .int v1), (2, .int s.1), (3, .int s.2.1), (4, .int s.2.2)] [] I) (h : MO_inverse_12b h0 v1 v2 v3 v4 I K X12) : jJ Z E 5 (jQi Z E (fun r I2 => I = I2 ∧ K r)) 12 [(0, .ref (E.2.2.1 h0)), (1, .int v1), (2, .int v2), (3, .int v3), (4, .int v4)] [] I := by
  unfold MO_inverse_12b at h
  refine j_iload C d_MO_inverse_12 4 rfl ?_
  refine j_if_le C d_MO_inverse_14 (tgt := 48) (by decide) (fun c14 => ?_) (fun c14 => ?_)
  · have h := h.1 c14
    refine j_iload_n C d_MO_inverse_48 rfl 1 rfl ?_
    refine j_if_ne C d_MO_inverse_49 (tgt := 56) (by decide) (fun c49 => ?_) (fun c49 => ?_)
    · have h := h.1 c49
      refine j_iload_n C d_MO_inverse_56 rfl 2 rfl ?_
      exact j_iret C hr d_MO_inverse_57 ⟨rfl, h⟩
    · have h := h.2 c49
      refine j_iconst C d_MO_inverse_52 ic_0 ?_
      refine j_goto C d_MO_inverse_53 (tgt := 57) (by decide) ?_
      exact j_iret C hr d_MO_inverse_57 ⟨rfl, h⟩
  · have h := h.2 c14
    refine j_iload C d_MO_inverse_17 4 rfl ?_
    refine j_iconst C d_MO_inverse_19 ic_1 ?_
    refine j_iand C d_MO_inverse_20 ?_
    refine j_iconst C d_MO_inverse_21 ic_1 ?_
    refine j_icmp_ne C d_MO_inverse_22 (tgt := 32) (by decide) (fun c22 => ?_) (fun c22 => ?_)
    · have h := h.1 c22
      refine j_lv [0, 1, 2, 3, 4] rfl ?_
      exact k_MO_inverse_32 C hr h0 v1 v2 v3 v4 I g_h0 hX12 h
    · have h := h.2 c22
      refine j_aload_n C d_MO_inverse_25 rfl 0 rfl ?_
      refine j_iload_n C d_MO_inverse_26 rfl 2 rfl ?_
      refine j_iload_n C d_MO_inverse_27 rfl 3 rfl ?_
      refine j_callVi (As := [.int v2, .int v3]) C jcl_MO cw_MO_25 w_634 w_635 g_h0 rfl rfl (by decide) (by decide) (Nat.le_of_ble_eq_true rfl) d_MO_inverse_28 (s_MO_times C.ok g_h0 h) (fun r_1 I2 h => ?_)
      obtain ⟨rfl, h⟩ := h
      refine j_istore_n C d_MO_inverse_31 rfl (by decide) (lv' := [(2, .int r_1), (0, .ref (E.2.2.1 h0)), (1, .int v1), (3, .int v3), (4, .int v4)]) rfl ?_
      refine j_lv [1, 2, 0, 3, 4] rfl ?_
      exact k_MO_inverse_32 C hr h0 v1 r_1 v3 v4 I g_h0 hX12 h
theorem k_MO_inverse_12 {Z : jZ} {E : jE} (C : jC Z E prog_5_method_5_code 5 "OutOrder$Modulus" 3 65) (hr : (jZh Z).sig.returnType = (some .int))  (h0 : Nat) (v1 : Int32) (v2 : Int32) (v3 : Int32) (v4 : Int32) (I : jM) (g_h0 : jOB E 3 h0) {K : Int32 → Prop} (h : MO_inverse_12 h0 v1 v2 v3 v4 I K) : jJ Z E 5 (jQi Z E (fun r I2 => I = I2 ∧ K r)) 12 [(0, .ref (E.2.2.1 h0)), (1, .int v1), (2, .int v2), (3, .int v3), (4, .int v4)] [] I := by
  unfold MO_inverse_12 at h
  exact h (fun s => jJ Z E 5 (jQi Z E (fun r I2 => I = I2 ∧ K r)) 12 [(0, .ref (E.2.2.1 h0)), (1, .int v1), (2, .int s.1), (3, .int s.2.1), (4, .int s.2.2)] [] I) (fun s hs => kb_MO_inverse_12 C hr h0 v1 s.1 s.2.1 s.2.2 I g_h0 (fun s2 h2 => h2) hs)
/-- OutOrder$Modulus.inverse(I)I -/
def MO_inverse (h0 : Nat) (v1 : Int32) (I : jM) (K : Int32 → Prop) : Prop :=
  (∀ v4_1 : Int32, v4_1 = ((I h0 0) - (2 : Int32)) → MO_inverse_12 h0 v1 (1 : Int32) v1 v4_1 I K)
set_option maxRecDepth 100000 in
set_option maxHeartbeats 4000000 in
theorem s_MO_inverse {l : Launch} {E : jE} (ok : jOK E)  {h0 : Nat} {v1 : Int32} (g_h0 : jOB E 3 h0) {I : jM} {K : Int32 → Prop} (h : MO_inverse h0 v1 I K) : jSi l E ⟨"OutOrder$Modulus", "inverse", "(I)I"⟩ prog_5_method_5_code 5 (some .int) 3 65 [.ref (E.2.2.1 h0), .int v1] I (fun r I2 => I = I2 ∧ K r) := by
  refine jS_ofF (own := "OutOrder$Modulus") (by decide +kernel) rfl ok (Nat.le_of_ble_eq_true rfl) (fun Z _ C hr => ?_)
  show jJ Z E 5 (jQi Z E (fun r I2 => I = I2 ∧ K r)) 0 [(0, .ref (E.2.2.1 h0)), (1, .int v1)] [] I
  unfold MO_inverse at h
  refine j_iconst C d_MO_inverse_0 ic_1 ?_
  refine j_istore_n C d_MO_inverse_1 rfl (by decide) (lv' := [(2, .int (1 : Int32)), (0, .ref (E.2.2.1 h0)), (1, .int v1)]) rfl ?_
  refine j_iload_n C d_MO_inverse_2 rfl 2 rfl ?_
  refine j_istore_n C d_MO_inverse_3 rfl (by decide) (lv' := [(3, .int v1), (2, .int (1 : Int32)), (0, .ref (E.2.2.1 h0)), (1, .int v1)]) rfl ?_
  refine j_aload_n C d_MO_inverse_4 rfl 2 rfl ?_
  refine fg_MO_9 C g_h0 d_MO_inverse_5 ?_
  refine j_iconst C d_MO_inverse_8 ic_2 ?_
  refine j_isub C d_MO_inverse_9 ?_
  refine j_topi (fun v4_1 ev4_1 => ?_)
  have h := h v4_1 ev4_1
  refine j_istore C d_MO_inverse_10 (by decide) (lv' := [(4, .int v4_1), (3, .int v1), (2, .int (1 : Int32)), (0, .ref (E.2.2.1 h0)), (1, .int v1)]) rfl ?_
  refine j_lv [3, 4, 2, 1, 0] rfl ?_
  exact k_MO_inverse_12 C hr h0 v1 (1 : Int32) v1 v4_1 I g_h0 h
theorem d_MO_isPrime_0 : decode prog_5_method_2_code 0 = .ok (.iconst 2, 1) := by decide +kernel
theorem d_MO_isPrime_1 : decode prog_5_method_2_code 1 = .ok (.istore_n 1, 1) := by decide +kernel
theorem d_MO_isPrime_2 : decode prog_5_method_2_code 2 = .ok (.iload_n 1, 1) := by decide +kernel
theorem d_MO_isPrime_3 : decode prog_5_method_2_code 3 = .ok (.iload_n 0, 1) := by decide +kernel
theorem d_MO_isPrime_4 : decode prog_5_method_2_code 4 = .ok (.iload_n 1, 1) := by decide +kernel
theorem d_MO_isPrime_5 : decode prog_5_method_2_code 5 = .ok (.idiv, 1) := by decide +kernel
theorem d_MO_isPrime_6 : decode prog_5_method_2_code 6 = .ok (.if_icmp .gt 17, 3) := by decide +kernel
theorem d_MO_isPrime_9 : decode prog_5_method_2_code 9 = .ok (.iload_n 0, 1) := by decide +kernel
theorem d_MO_isPrime_10 : decode prog_5_method_2_code 10 = .ok (.iload_n 1, 1) := by decide +kernel
theorem d_MO_isPrime_11 : decode prog_5_method_2_code 11 = .ok (.irem, 1) := by decide +kernel
theorem d_MO_isPrime_12 : decode prog_5_method_2_code 12 = .ok (.ifCond .ne 5, 3) := by decide +kernel
theorem d_MO_isPrime_15 : decode prog_5_method_2_code 15 = .ok (.iconst 0, 1) := by decide +kernel
theorem d_MO_isPrime_16 : decode prog_5_method_2_code 16 = .ok (.ireturn, 1) := by decide +kernel
theorem d_MO_isPrime_17 : decode prog_5_method_2_code 17 = .ok (.iinc 1 1, 3) := by decide +kernel
theorem d_MO_isPrime_20 : decode prog_5_method_2_code 20 = .ok (.goto (-18), 3) := by decide +kernel
theorem d_MO_isPrime_23 : decode prog_5_method_2_code 23 = .ok (.iload_n 0, 1) := by decide +kernel
theorem d_MO_isPrime_24 : decode prog_5_method_2_code 24 = .ok (.iconst 1, 1) := by decide +kernel
theorem d_MO_isPrime_25 : decode prog_5_method_2_code 25 = .ok (.if_icmp .le 7, 3) := by decide +kernel
theorem d_MO_isPrime_28 : decode prog_5_method_2_code 28 = .ok (.iconst 1, 1) := by decide +kernel
theorem d_MO_isPrime_29 : decode prog_5_method_2_code 29 = .ok (.goto 4, 3) := by decide +kernel
theorem d_MO_isPrime_32 : decode prog_5_method_2_code 32 = .ok (.iconst 0, 1) := by decide +kernel
theorem d_MO_isPrime_33 : decode prog_5_method_2_code 33 = .ok (.ireturn, 1) := by decide +kernel
def MO_isPrime_2b (v0 : Int32) (v1 : Int32) (I : jM) (K : Int32 → Prop) (X2 : Int32 → Prop) : Prop :=
  (¬ v1 = 0 ∧ (((v0 / v1) < v1 → ((v0 ≤ (1 : Int32) → K (0 : Int32)) ∧ (¬ v0 ≤ (1 : Int32) → K (1 : Int32)))) ∧ (¬ (v0 / v1) < v1 → (¬ v1 = 0 ∧ ((¬ (v0 - v0 / v1 * v1) = 0 → X2 (v1 + 1)) ∧ ((v0 - v0 / v1 * v1) = 0 → K (0 : Int32)))))))
def MO_isPrime_2 (v0 : Int32) (v1 : Int32) (I : jM) (K : Int32 → Prop) : Prop :=
  lp (fun (X2 : Int32 → Prop) (s : Int32) => MO_isPrime_2b v0 s I K X2) v1
set_option maxRecDepth 100000 in
set_option maxHeartbeats 4000000 in
theorem kb_MO_isPrime_2 {Z : jZ} {E : jE} (C : jC Z E prog_5_method_2_code 2 "OutOrder$Modulus" 0 0) (hr : (jZh Z).sig.returnType = (some .boolean))  (v0 : Int32) (v1 : Int32) (I : jM) {K : Int32 → Prop} {X2 : Int32 → Prop} (hX2 : ∀ s : Int32, X2 s → jJ Z E 2 (jQi Z E (fun r I2 => I = I2 ∧ K r)) 2 [(0, .int v0), (1, .int s)] [] I) (h : MO_isPrime_2b v0 v1 I K X2) : jJ Z E 2 (jQi Z E (fun r I2 => I = I2 ∧ K r)) 2 [(0, .int v0), (1, .int v1)] [] I := by
  unfold MO_isPrime_2b at h
  refine j_iload_n C d_MO_isPrime_2 rfl 1 rfl ?_
  refine j_iload_n C d_MO_isPrime_3 rfl 0 rfl ?_
  refine j_iload_n C d_MO_isPrime_4 rfl 1 rfl ?_
  obtain ⟨hn, h⟩ := h
  refine j_idiv C d_MO_isPrime_5 hn ?_
  refine j_icmp_gt C d_MO_isPrime_6 (tgt := 23) (by decide) (fun c6 => ?_) (fun c6 => ?_)
  · have h := h.1 c6
    refine j_iload_n C d_MO_isPrime_23 rfl 0 rfl ?_
    refine j_iconst C d_MO_isPrime_24 ic_1 ?_
    refine j_icmp_le C d_MO_isPrime_25 (tgt := 32) (by decide) (fun c25 => ?_) (fun c25 => ?_)
    · have h := h.1 c25
      refine j_iconst C d_MO_isPrime_32 ic_0 ?_
      exact j_zret C hr (by decide) d_MO_isPrime_33 ⟨rfl, h⟩
    · have h := h.2 c25
      refine j_iconst C d_MO_isPrime_28 ic_1 ?_
      refine j_goto C d_MO_isPrime_29 (tgt := 33) (by decide) ?_
      exact j_zret C hr (by decide) d_MO_isPrime_33 ⟨rfl, h⟩
  · have h := h.2 c6
    refine j_iload_n C d_MO_isPrime_9 rfl 0 rfl ?_
    refine j_iload_n C d_MO_isPrime_10 rfl 1 rfl ?_
    obtain ⟨hn, h⟩ := h
    refine j_irem C d_MO_isPrime_11 hn ?_
    refine j_if_ne C d_MO_isPrime_12 (tgt := 17) (by decide) (fun c12 => ?_) (fun c12 => ?_)
    · have h := h.1 c12
      refine j_iinc C d_MO_isPrime_17 1 rfl (v := (v1 + 1)) rfl (by decide) (lv' := [(1, .int (v1 + 1)), (0, .int v0)]) rfl ?_
      refine j_goto C d_MO_isPrime_20 (tgt := 2) (by decide) ?_
      refine j_lv [1, 0] rfl ?_
      exact hX2 (v1 + 1) h
    · have h := h.2 c12
      refine j_iconst C d_MO_isPrime_15 ic_0 ?_
      exact j_zret C hr (by decide) d_MO_isPrime_16 ⟨rfl, h⟩
theorem k_MO_isPrime_2 {Z : jZ} {E : jE} (C : jC Z E prog_5_method_2_code 2 "OutOrder$Modulus" 0 0) (hr : (jZh Z).sig.returnType = (some .boolean))  (v0 : Int32) (v1 : Int32) (I : jM) {K : Int32 → Prop} (h : MO_isPrime_2 v0 v1 I K) : jJ Z E 2 (jQi Z E (fun r I2 => I = I2 ∧ K r)) 2 [(0, .int v0), (1, .int v1)] [] I := by
  unfold MO_isPrime_2 at h
  exact h (fun s => jJ Z E 2 (jQi Z E (fun r I2 => I = I2 ∧ K r)) 2 [(0, .int v0), (1, .int s)] [] I) (fun s hs => kb_MO_isPrime_2 C hr v0 s I  (fun s2 h2 => h2) hs)
/-- OutOrder$Modulus.isPrime(I)Z -/
def MO_isPrime (v0 : Int32) (I : jM) (K : Int32 → Prop) : Prop :=
  MO_isPrime_2 v0 (2 : Int32) I K
set_option maxRecDepth 100000 in
set_option maxHeartbeats 4000000 in
theorem s_MO_isPrime {l : Launch} {E : jE} (ok : jOK E)  {v0 : Int32} {I : jM} {K : Int32 → Prop} (h : MO_isPrime v0 I K) : jSi l E ⟨"OutOrder$Modulus", "isPrime", "(I)Z"⟩ prog_5_method_2_code 2 (some .boolean) 0 0 [.int v0] I (fun r I2 => I = I2 ∧ K r) := by
  refine jS_ofF (own := "OutOrder$Modulus") (by decide +kernel) rfl ok (Nat.le_of_ble_eq_true rfl) (fun Z _ C hr => ?_)
  show jJ Z E 2 (jQi Z E (fun r I2 => I = I2 ∧ K r)) 0 [(0, .int v0)] [] I
  unfold MO_isPrime at h
  refine j_iconst C d_MO_isPrime_0 ic_2 ?_
  refine j_istore_n C d_MO_isPrime_1 rfl (by decide) (lv' := [(1, .int (2 : Int32)), (0, .int v0)]) rfl ?_
  refine j_lv [1, 0] rfl ?_
  exact k_MO_isPrime_2 C hr v0 (2 : Int32) I  h
