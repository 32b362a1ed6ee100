theorem d_RU_cost_0 : decode prog_10_method_4_code 0 = .ok (.iload_n 1, 1) := by decide +kernel
theorem d_RU_cost_1 : decode prog_10_method_4_code 1 = .ok (.ifCond .ne 5, 3) := by decide +kernel
theorem d_RU_cost_4 : decode prog_10_method_4_code 4 = .ok (.iconst 0, 1) := by decide +kernel
theorem d_RU_cost_5 : decode prog_10_method_4_code 5 = .ok (.ireturn, 1) := by decide +kernel
theorem d_RU_cost_6 : decode prog_10_method_4_code 6 = .ok (.iload_n 1, 1) := by decide +kernel
theorem d_RU_cost_7 : decode prog_10_method_4_code 7 = .ok (.iconst 1, 1) := by decide +kernel
theorem d_RU_cost_8 : decode prog_10_method_4_code 8 = .ok (.if_icmp .ne 18, 3) := by decide +kernel
theorem d_RU_cost_11 : decode prog_10_method_4_code 11 = .ok (.aload_n 0, 1) := by decide +kernel
theorem d_RU_cost_12 : decode prog_10_method_4_code 12 = .ok (.getfield 12, 3) := by decide +kernel
theorem d_RU_cost_15 : decode prog_10_method_4_code 15 = .ok (.getfield 52, 3) := by decide +kernel
theorem d_RU_cost_18 : decode prog_10_method_4_code 18 = .ok (.iload_n 2, 1) := by decide +kernel
theorem d_RU_cost_19 : decode prog_10_method_4_code 19 = .ok (.iaload, 1) := by decide +kernel
theorem d_RU_cost_20 : decode prog_10_method_4_code 20 = .ok (.invokestatic 56, 3) := by decide +kernel
theorem d_RU_cost_23 : decode prog_10_method_4_code 23 = .ok (.goto 11, 3) := by decide +kernel
theorem d_RU_cost_26 : decode prog_10_method_4_code 26 = .ok (.aload_n 0, 1) := by decide +kernel
theorem d_RU_cost_27 : decode prog_10_method_4_code 27 = .ok (.getfield 12, 3) := by decide +kernel
theorem d_RU_cost_30 : decode prog_10_method_4_code 30 = .ok (.iload_n 2, 1) := by decide +kernel
theorem d_RU_cost_31 : decode prog_10_method_4_code 31 = .ok (.invokevirtual 62, 3) := by decide +kernel
theorem d_RU_cost_34 : decode prog_10_method_4_code 34 = .ok (.ireturn, 1) := by decide +kernel
/-- OutOrder$Rules.cost(II)I -/
def RU_cost (h0 : Nat) (v1 : Int32) (v2 : Int32) (I : jM) (K : Int32 → Prop) : Prop :=
  ((¬ v1 = 0 → ((¬ v1 = (1 : Int32) → NE_missing (jr h0 0) v2 I (fun r_1 => K r_1)) ∧ (v1 = (1 : Int32) → (vp_in v2 24 ∧ JI_bitCount (I (jr (jr h0 0) 0) v2.toNatClampNeg) I (fun r_2 => K r_2))))) ∧ (v1 = 0 → K (0 : Int32)))
set_option maxRecDepth 100000 in
set_option maxHeartbeats 4000000 in
theorem s_RU_cost {l : Launch} {E : jE} (ok : jOK E) (hE : E.2.2.2 = jLX) {h0 : Nat} {v1 : Int32} {v2 : Int32} (g_h0 : jOB E 7 h0) {I : jM} {K : Int32 → Prop} (h : RU_cost h0 v1 v2 I K) : jSi l E ⟨"OutOrder$Rules", "cost", "(II)I"⟩ prog_10_method_4_code 3 (some .int) 2 44 [.ref (E.2.2.1 h0), .int v1, .int v2] I (fun r I2 => I = I2 ∧ K r) := by
  refine jS_ofF (own := "OutOrder$Rules") (by decide +kernel) rfl ok (Nat.le_of_ble_eq_true rfl) (fun Z _ C hr => ?_)
  show jJ Z E 3 (jQi Z E (fun r I2 => I = I2 ∧ K r)) 0 [(0, .ref (E.2.2.1 h0)), (1, .int v1), (2, .int v2)] [] I
  unfold RU_cost at h
  refine j_iload_n C d_RU_cost_0 rfl 1 rfl ?_
  refine j_if_ne C d_RU_cost_1 (tgt := 6) (by decide) (fun c1 => ?_) (fun c1 => ?_)
  · have h := h.1 c1
    refine j_iload_n C d_RU_cost_6 rfl 1 rfl ?_
    refine j_iconst C d_RU_cost_7 ic_1 ?_
    refine j_icmp_ne C d_RU_cost_8 (tgt := 26) (by decide) (fun c8 => ?_) (fun c8 => ?_)
    · have h := h.1 c8
      refine j_aload_n C d_RU_cost_26 rfl 0 rfl ?_
      refine fg_RU_12 C g_h0 d_RU_cost_27 ?_
      refine j_iload_n C d_RU_cost_30 rfl 2 rfl ?_
      refine j_callVi (As := [.int v2]) C jcl_NE cw_RU_62 w_484 w_485 (sh_RU_0 hE g_h0) rfl rfl (by decide) (by decide) (Nat.le_of_ble_eq_true rfl) d_RU_cost_31 (s_NE_missing C.ok hE (sh_RU_0 hE g_h0) h) (fun r_1 I2 h => ?_)
      obtain ⟨rfl, h⟩ := h
      exact j_iret C hr d_RU_cost_34 ⟨rfl, h⟩
    · have h := h.2 c8
      refine j_aload_n C d_RU_cost_11 rfl 0 rfl ?_
      refine fg_RU_12 C g_h0 d_RU_cost_12 ?_
      refine fg_RU_52 C (sh_RU_0 hE g_h0) d_RU_cost_15 ?_
      refine j_iload_n C d_RU_cost_18 rfl 2 rfl ?_
      obtain ⟨hi, h⟩ := h
      refine j_iaload C (sh_NE_0 hE (sh_RU_0 hE g_h0)) hi d_RU_cost_19 ?_
      refine j_callSi (As := [.int (I (jr (jr h0 0) 0) v2.toNatClampNeg)]) C cw_RU_56 w_412 rfl rfl (by decide) (by decide) (Nat.le_of_ble_eq_true rfl) d_RU_cost_20 (s_JI_bitCount C.ok  h) (fun r_2 I2 h => ?_)
      obtain ⟨rfl, h⟩ := h
      refine j_goto C d_RU_cost_23 (tgt := 34) (by decide) ?_
      exact j_iret C hr d_RU_cost_34 ⟨rfl, h⟩
  · have h := h.2 c1
    refine j_iconst C d_RU_cost_4 ic_0 ?_
    exact j_iret C hr d_RU_cost_5 ⟨rfl, h⟩
theorem d_RU_cheapest_0 : decode prog_10_method_3_code 0 = .ok (.iconst 0, 1) := by decide +kernel
theorem d_RU_cheapest_1 : decode prog_10_method_3_code 1 = .ok (.istore_n 3, 1) := by decide +kernel
theorem d_RU_cheapest_2 : decode prog_10_method_3_code 2 = .ok (.sipush 576, 3) := by decide +kernel
theorem d_RU_cheapest_5 : decode prog_10_method_3_code 5 = .ok (.istore 4, 2) := by decide +kernel
theorem d_RU_cheapest_7 : decode prog_10_method_3_code 7 = .ok (.iconst 0, 1) := by decide +kernel
theorem d_RU_cheapest_8 : decode prog_10_method_3_code 8 = .ok (.istore 5, 2) := by decide +kernel
theorem d_RU_cheapest_10 : decode prog_10_method_3_code 10 = .ok (.iload 5, 2) := by decide +kernel
theorem d_RU_cheapest_12 : decode prog_10_method_3_code 12 = .ok (.aload_n 0, 1) := by decide +kernel
theorem d_RU_cheapest_13 : decode prog_10_method_3_code 13 = .ok (.getfield 12, 3) := by decide +kernel
theorem d_RU_cheapest_16 : decode prog_10_method_3_code 16 = .ok (.getfield 48, 3) := by decide +kernel
theorem d_RU_cheapest_19 : decode prog_10_method_3_code 19 = .ok (.if_icmp .ge 43, 3) := by decide +kernel
theorem d_RU_cheapest_22 : decode prog_10_method_3_code 22 = .ok (.iload_n 2, 1) := by decide +kernel
theorem d_RU_cheapest_23 : decode prog_10_method_3_code 23 = .ok (.iload 5, 2) := by decide +kernel
theorem d_RU_cheapest_25 : decode prog_10_method_3_code 25 = .ok (.ishr, 1) := by decide +kernel
theorem d_RU_cheapest_26 : decode prog_10_method_3_code 26 = .ok (.iconst 1, 1) := by decide +kernel
theorem d_RU_cheapest_27 : decode prog_10_method_3_code 27 = .ok (.iand, 1) := by decide +kernel
theorem d_RU_cheapest_28 : decode prog_10_method_3_code 28 = .ok (.iconst 1, 1) := by decide +kernel
theorem d_RU_cheapest_29 : decode prog_10_method_3_code 29 = .ok (.if_icmp .ne 27, 3) := by decide +kernel
theorem d_RU_cheapest_32 : decode prog_10_method_3_code 32 = .ok (.aload_n 0, 1) := by decide +kernel
theorem d_RU_cheapest_33 : decode prog_10_method_3_code 33 = .ok (.iload_n 1, 1) := by decide +kernel
theorem d_RU_cheapest_34 : decode prog_10_method_3_code 34 = .ok (.iload 5, 2) := by decide +kernel
theorem d_RU_cheapest_36 : decode prog_10_method_3_code 36 = .ok (.invokevirtual 49, 3) := by decide +kernel
theorem d_RU_cheapest_39 : decode prog_10_method_3_code 39 = .ok (.iload 4, 2) := by decide +kernel
theorem d_RU_cheapest_41 : decode prog_10_method_3_code 41 = .ok (.if_icmp .ge 15, 3) := by decide +kernel
theorem d_RU_cheapest_44 : decode prog_10_method_3_code 44 = .ok (.iload 5, 2) := by decide +kernel
theorem d_RU_cheapest_46 : decode prog_10_method_3_code 46 = .ok (.istore_n 3, 1) := by decide +kernel
theorem d_RU_cheapest_47 : decode prog_10_method_3_code 47 = .ok (.aload_n 0, 1) := by decide +kernel
theorem d_RU_cheapest_48 : decode prog_10_method_3_code 48 = .ok (.iload_n 1, 1) := by decide +kernel
theorem d_RU_cheapest_49 : decode prog_10_method_3_code 49 = .ok (.iload 5, 2) := by decide +kernel
theorem d_RU_cheapest_51 : decode prog_10_method_3_code 51 = .ok (.invokevirtual 49, 3) := by decide +kernel
theorem d_RU_cheapest_54 : decode prog_10_method_3_code 54 = .ok (.istore 4, 2) := by decide +kernel
theorem d_RU_cheapest_56 : decode prog_10_method_3_code 56 = .ok (.iinc 5 1, 3) := by decide +kernel
theorem d_RU_cheapest_59 : decode prog_10_method_3_code 59 = .ok (.goto (-49), 3) := by decide +kernel
theorem d_RU_cheapest_62 : decode prog_10_method_3_code 62 = .ok (.iload_n 3, 1) := by decide +kernel
theorem d_RU_cheapest_63 : decode prog_10_method_3_code 63 = .ok (.ireturn, 1) := by decide +kernel
def RU_cheapest_10b (h0 : Nat) (v1 : Int32) (v2 : Int32) (v3 : Int32) (v4 : Int32) (v5 : Int32) (I : jM) (K : Int32 → Prop) (X10 : Int32 × Int32 × Int32 → Prop) : Prop :=
  (((I (jr h0 0) 2) ≤ v5 → K v3) ∧ (¬ (I (jr h0 0) 2) ≤ v5 → ((¬ ((v2 >>> (v5 &&& 31)) &&& (1 : Int32)) = (1 : Int32) → X10 (v3, v4, (v5 + 1))) ∧ (((v2 >>> (v5 &&& 31)) &&& (1 : Int32)) = (1 : Int32) → RU_cost h0 v1 v5 I (fun r_1 => ((v4 ≤ r_1 → X10 (v3, v4, (v5 + 1))) ∧ (¬ v4 ≤ r_1 → RU_cost h0 v1 v5 I (fun r_2 => X10 (v5, r_2, (v5 + 1))))))))))
def RU_cheapest_10 (h0 : Nat) (v1 : Int32) (v2 : Int32) (v3 : Int32) (v4 : Int32) (v5 : Int32) (I : jM) (K : Int32 → Prop) : Prop :=
  lp (fun (X10 : Int32 × Int32 × Int32 → Prop) (s : Int32 × Int32 × Int32) => RU_cheapest_10b h0 v1 v2 s.1 s.2.1 s.2.2 I K X10) (v3, v4, v5)
set_option maxRecDepth 100000 in
set_option maxHeartbeats 4000000 in
theorem kb_RU_cheapest_10 {Z : jZ} {E : jE} (C : jC Z E prog_10_method_3_code 6 "OutOrder$Rules" 3 66) (hr : (jZh Z).sig.returnType = (some .int)) (hE : E.2.2.2 = jLX)  (h0 : Nat) (v1 : Int32) (v2 : Int32) (v3 : Int32) (v4 : Int32) (v5 : Int32) (I : jM) (g_h0 : jOB E 7 h0) {K : Int32 → Prop} {X10 : Int32 × Int32 × Int32 → Prop} (hX10 : ∀ s : Int32 × Int32 × Int32, X10 s → jJ Z E 6 (jQi Z E (fun r I2 => I = I2 ∧ K r)) 10 [(0, .ref (E.2.2.1 h0)), (1, .int v1), (2, .int v2), (3, .int s.1), (4, .int s.2.1), (5, .int s.2.2)] [] I) (h : RU_cheapest_10b h0 v1 v2 v3 v4 v5 I K X10) : jJ Z E 6 (jQi Z E (fun r I2 => I = I2 ∧ K r)) 10 [(0, .ref (E.2.2.1 h0)), (1, .int v1), (2, .int v2), (3, .int v3), (4, .int v4), (5, .int v5)] [] I := by
  unfold RU_cheapest_10b at h
  refine j_iload C d_RU_cheapest_10 5 rfl ?_
  refine j_aload_n C d_RU_cheapest_12 rfl 0 rfl ?_
  refine fg_RU_12 C g_h0 d_RU_cheapest_13 ?_
  refine fg_RU_48 C (sh_RU_0 hE g_h0) d_RU_cheapest_16 ?_
  refine j_icmp_ge C d_RU_cheapest_19 (tgt := 62) (by decide) (fun c19 => ?_) (fun c19 => ?_)
  · have h := h.1 c19
    refine j_iload_n C d_RU_cheapest_62 rfl 3 rfl ?_
    exact j_iret C hr d_RU_cheapest_63 ⟨rfl, h⟩
  · have h := h.2 c19
    refine j_iload_n C d_RU_cheapest_22 rfl 2 rfl ?_
    refine j_iload C d_RU_cheapest_23 5 rfl ?_
    refine j_ishr C d_RU_cheapest_25 ?_
    refine j_iconst C d_RU_cheapest_26 ic_1 ?_
    refine j_iand C d_RU_cheapest_27 ?_
    refine j_iconst C d_RU_cheapest_28 ic_1 ?_
    refine j_icmp_ne C d_RU_cheapest_29 (tgt := 56) (by decide) (fun c29 => ?_) (fun c29 => ?_)
    · have h := h.1 c29
      refine j_iinc C d_RU_cheapest_56 5 rfl (v := (v5 + 1)) rfl (by decide) (lv' := [(5, .int (v5 + 1)), (0, .ref (E.2.2.1 h0)), (1, .int v1), (2, .int v2), (3, .int v3), (4, .int v4)]) rfl ?_
      refine j_goto C d_RU_cheapest_59 (tgt := 10) (by decide) ?_
      refine j_lv [1, 2, 3, 4, 5, 0] rfl ?_
      exact hX10 (v3, v4, (v5 + 1)) h
    · have h := h.2 c29
      refine j_aload_n C d_RU_cheapest_32 rfl 0 rfl ?_
      refine j_iload_n C d_RU_cheapest_33 rfl 1 rfl ?_
      refine j_iload C d_RU_cheapest_34 5 rfl ?_
      refine j_callVi (As := [.int v1, .int v5]) C jcl_RU cw_RU_49 w_481 ws_12 g_h0 rfl rfl (by decide) (by decide) (Nat.le_of_ble_eq_true rfl) d_RU_cheapest_36 (s_RU_cost C.ok hE g_h0 h) (fun r_1 I2 h => ?_)
      obtain ⟨rfl, h⟩ := h
      refine j_iload C d_RU_cheapest_39 4 rfl ?_
      refine j_icmp_ge C d_RU_cheapest_41 (tgt := 56) (by decide) (fun c41 => ?_) (fun c41 => ?_)
      · have h := h.1 c41
        refine j_iinc C d_RU_cheapest_56 5 rfl (v := (v5 + 1)) rfl (by decide) (lv' := [(5, .int (v5 + 1)), (0, .ref (E.2.2.1 h0)), (1, .int v1), (2, .int v2), (3, .int v3), (4, .int v4)]) rfl ?_
        refine j_goto C d_RU_cheapest_59 (tgt := 10) (by decide) ?_
        refine j_lv [1, 2, 3, 4, 5, 0] rfl ?_
        exact hX10 (v3, v4, (v5 + 1)) h
      · have h := h.2 c41
        refine j_iload C d_RU_cheapest_44 5 rfl ?_
        refine j_istore_n C d_RU_cheapest_46 rfl (by decide) (lv' := [(3, .int v5), (0, .ref (E.2.2.1 h0)), (1, .int v1), (2, .int v2), (4, .int v4), (5, .int v5)]) rfl ?_
        refine j_aload_n C d_RU_cheapest_47 rfl 1 rfl ?_
        refine j_iload_n C d_RU_cheapest_48 rfl 2 rfl ?_
        refine j_iload C d_RU_cheapest_49 5 rfl ?_
        refine j_callVi (As := [.int v1, .int v5]) C jcl_RU cw_RU_49 w_481 ws_12 g_h0 rfl rfl (by decide) (by decide) (Nat.le_of_ble_eq_true rfl) d_RU_cheapest_51 (s_RU_cost C.ok hE g_h0 h) (fun r_2 I2 h => ?_)
        obtain ⟨rfl, h⟩ := h
        refine j_istore C d_RU_cheapest_54 (by decide) (lv' := [(4, .int r_2), (3, .int v5), (0, .ref (E.2.2.1 h0)), (1, .int v1), (2, .int v2), (5, .int v5)]) rfl ?_
        refine j_iinc C d_RU_cheapest_56 5 rfl (v := (v5 + 1)) rfl (by decide) (lv' := [(5, .int (v5 + 1)), (4, .int r_2), (3, .int v5), (0, .ref (E.2.2.1 h0)), (1, .int v1), (2, .int v2)]) rfl ?_
        refine j_goto C d_RU_cheapest_59 (tgt := 10) (by decide) ?_
        refine j_lv [3, 4, 5, 2, 1, 0] rfl ?_
        exact hX10 (v5, r_2, (v5 + 1)) h
theorem k_RU_cheapest_10 {Z : jZ} {E : jE} (C : jC Z E prog_10_method_3_code 6 "OutOrder$Rules" 3 66) (hr : (jZh Z).sig.returnType = (some .int)) (hE : E.2.2.2 = jLX)  (h0 : Nat) (v1 : Int32) (v2 : Int32) (v3 : Int32) (v4 : Int32) (v5 : Int32) (I : jM) (g_h0 : jOB E 7 h0) {K : Int32 → Prop} (h : RU_cheapest_10 h0 v1 v2 v3 v4 v5 I K) : jJ Z E 6 (jQi Z E (fun r I2 => I = I2 ∧ K r)) 10 [(0, .ref (E.2.2.1 h0)), (1, .int v1), (2, .int v2), (3, .int v3), (4, .int v4), (5, .int v5)] [] I := by
  unfold RU_cheapest_10 at h
  exact h (fun s => jJ Z E 6 (jQi Z E (fun r I2 => I = I2 ∧ K r)) 10 [(0, .ref (E.2.2.1 h0)), (1, .int v1), (2, .int v2), (3, .int s.1), (4, .int s.2.1), (5, .int s.2.2)] [] I) (fun s hs => kb_RU_cheapest_10 C hr hE h0 v1 v2 s.1 s.2.1 s.2.2 I g_h0 (fun s2 h2 => h2) hs)
/-- OutOrder$Rules.cheapest(II)I -/
def RU_cheapest (h0 : Nat) (v1 : Int32) (v2 : Int32) (I : jM) (K : Int32 → Prop) : Prop :=
  RU_cheapest_10 h0 v1 v2 (0 : Int32) (576 : Int32) (0 : Int32) I K
set_option maxRecDepth 100000 in
set_option maxHeartbeats 4000000 in
theorem s_RU_cheapest {l : Launch} {E : jE} (ok : jOK E) (hE : E.2.2.2 = jLX) {h0 : Nat} {v1 : Int32} {v2 : Int32} (g_h0 : jOB E 7 h0) {I : jM} {K : Int32 → Prop} (h : RU_cheapest h0 v1 v2 I K) : jSi l E ⟨"OutOrder$Rules", "cheapest", "(II)I"⟩ prog_10_method_3_code 6 (some .int) 3 66 [.ref (E.2.2.1 h0), .int v1, .int v2] I (fun r I2 => I = I2 ∧ K r) := by
  refine jS_ofF (own := "OutOrder$Rules") (by decide +kernel) rfl ok (Nat.le_of_ble_eq_true rfl) (fun Z _ C hr => ?_)
  show jJ Z E 6 (jQi Z E (fun r I2 => I = I2 ∧ K r)) 0 [(0, .ref (E.2.2.1 h0)), (1, .int v1), (2, .int v2)] [] I
  unfold RU_cheapest at h
  refine j_iconst C d_RU_cheapest_0 ic_0 ?_
  refine j_istore_n C d_RU_cheapest_1 rfl (by decide) (lv' := [(3, .int (0 : Int32)), (0, .ref (E.2.2.1 h0)), (1, .int v1), (2, .int v2)]) rfl ?_
  refine j_sipush C d_RU_cheapest_2 is_576 ?_
  refine j_istore C d_RU_cheapest_5 (by decide) (lv' := [(4, .int (576 : Int32)), (3, .int (0 : Int32)), (0, .ref (E.2.2.1 h0)), (1, .int v1), (2, .int v2)]) rfl ?_
  refine j_iconst C d_RU_cheapest_7 ic_0 ?_
  refine j_istore C d_RU_cheapest_8 (by decide) (lv' := [(5, .int (0 : Int32)), (4, .int (576 : Int32)), (3, .int (0 : Int32)), (0, .ref (E.2.2.1 h0)), (1, .int v1), (2, .int v2)]) rfl ?_
  refine j_lv [3, 4, 5, 2, 1, 0] rfl ?_
  exact k_RU_cheapest_10 C hr hE h0 v1 v2 (0 : Int32) (576 : Int32) (0 : Int32) I g_h0 h
theorem d_RU_greedy_0 : decode prog_10_method_2_code 0 = .ok (.aload_n 0, 1) := by decide +kernel
theorem d_RU_greedy_1 : decode prog_10_method_2_code 1 = .ok (.getfield 12, 3) := by decide +kernel
theorem d_RU_greedy_4 : decode prog_10_method_2_code 4 = .ok (.aload_n 2, 1) := by decide +kernel
theorem d_RU_greedy_5 : decode prog_10_method_2_code 5 = .ok (.invokevirtual 18, 3) := by decide +kernel
theorem d_RU_greedy_8 : decode prog_10_method_2_code 8 = .ok (.iconst 0, 1) := by decide +kernel
theorem d_RU_greedy_9 : decode prog_10_method_2_code 9 = .ok (.istore 4, 2) := by decide +kernel
theorem d_RU_greedy_11 : decode prog_10_method_2_code 11 = .ok (.iload 4, 2) := by decide +kernel
theorem d_RU_greedy_13 : decode prog_10_method_2_code 13 = .ok (.aload_n 2, 1) := by decide +kernel
theorem d_RU_greedy_14 : decode prog_10_method_2_code 14 = .ok (.getfield 22, 3) := by decide +kernel
theorem d_RU_greedy_17 : decode prog_10_method_2_code 17 = .ok (.if_icmp .ge 66, 3) := by decide +kernel
theorem d_RU_greedy_20 : decode prog_10_method_2_code 20 = .ok (.aload_n 0, 1) := by decide +kernel
theorem d_RU_greedy_21 : decode prog_10_method_2_code 21 = .ok (.getfield 12, 3) := by decide +kernel
theorem d_RU_greedy_24 : decode prog_10_method_2_code 24 = .ok (.getfield 28, 3) := by decide +kernel
theorem d_RU_greedy_27 : decode prog_10_method_2_code 27 = .ok (.aload_n 2, 1) := by decide +kernel
theorem d_RU_greedy_28 : decode prog_10_method_2_code 28 = .ok (.getfield 31, 3) := by decide +kernel
theorem d_RU_greedy_31 : decode prog_10_method_2_code 31 = .ok (.iconst (-1), 1) := by decide +kernel
theorem d_RU_greedy_32 : decode prog_10_method_2_code 32 = .ok (.ixor, 1) := by decide +kernel
theorem d_RU_greedy_33 : decode prog_10_method_2_code 33 = .ok (.iand, 1) := by decide +kernel
theorem d_RU_greedy_34 : decode prog_10_method_2_code 34 = .ok (.istore 5, 2) := by decide +kernel
theorem d_RU_greedy_36 : decode prog_10_method_2_code 36 = .ok (.aload_n 0, 1) := by decide +kernel
theorem d_RU_greedy_37 : decode prog_10_method_2_code 37 = .ok (.iload_n 1, 1) := by decide +kernel
theorem d_RU_greedy_38 : decode prog_10_method_2_code 38 = .ok (.iload 5, 2) := by decide +kernel
theorem d_RU_greedy_40 : decode prog_10_method_2_code 40 = .ok (.ifCond .eq 8, 3) := by decide +kernel
theorem d_RU_greedy_43 : decode prog_10_method_2_code 43 = .ok (.iload 5, 2) := by decide +kernel
theorem d_RU_greedy_45 : decode prog_10_method_2_code 45 = .ok (.goto 10, 3) := by decide +kernel
theorem d_RU_greedy_48 : decode prog_10_method_2_code 48 = .ok (.aload_n 0, 1) := by decide +kernel
theorem d_RU_greedy_49 : decode prog_10_method_2_code 49 = .ok (.getfield 12, 3) := by decide +kernel
theorem d_RU_greedy_52 : decode prog_10_method_2_code 52 = .ok (.getfield 28, 3) := by decide +kernel
theorem d_RU_greedy_55 : decode prog_10_method_2_code 55 = .ok (.invokevirtual 34, 3) := by decide +kernel
theorem d_RU_greedy_58 : decode prog_10_method_2_code 58 = .ok (.istore 6, 2) := by decide +kernel
theorem d_RU_greedy_60 : decode prog_10_method_2_code 60 = .ok (.aload_n 3, 1) := by decide +kernel
theorem d_RU_greedy_61 : decode prog_10_method_2_code 61 = .ok (.iload 4, 2) := by decide +kernel
theorem d_RU_greedy_63 : decode prog_10_method_2_code 63 = .ok (.iload 6, 2) := by decide +kernel
theorem d_RU_greedy_65 : decode prog_10_method_2_code 65 = .ok (.invokevirtual 38, 3) := by decide +kernel
theorem d_RU_greedy_68 : decode prog_10_method_2_code 68 = .ok (.aload_n 0, 1) := by decide +kernel
theorem d_RU_greedy_69 : decode prog_10_method_2_code 69 = .ok (.getfield 12, 3) := by decide +kernel
theorem d_RU_greedy_72 : decode prog_10_method_2_code 72 = .ok (.iload 6, 2) := by decide +kernel
theorem d_RU_greedy_74 : decode prog_10_method_2_code 74 = .ok (.invokevirtual 44, 3) := by decide +kernel
theorem d_RU_greedy_77 : decode prog_10_method_2_code 77 = .ok (.iinc 4 1, 3) := by decide +kernel
theorem d_RU_greedy_80 : decode prog_10_method_2_code 80 = .ok (.goto (-69), 3) := by decide +kernel
theorem d_RU_greedy_83 : decode prog_10_method_2_code 83 = .ok (.return_, 1) := by decide +kernel
def RU_greedy_55 (h0 : Nat) (v1 : Int32) (h2 : Nat) (h3 : Nat) (v4 : Int32) (r0 : Nat) (s1 : Int32) (s2 : Int32) (I : jM) (K : jM → Prop) (X11 : Int32 × jM → Prop) : Prop :=
  RU_cheapest r0 s1 s2 I (fun r_1 => RO_set h3 v4 r_1 I (fun I_3 => NE_remove (jr h0 0) r_1 I_3 (fun I_5 => X11 ((v4 + 1), I_5))))
set_option maxRecDepth 100000 in
set_option maxHeartbeats 4000000 in
theorem k_RU_greedy_55 {Z : jZ} {E : jE} (C : jC Z E prog_10_method_2_code 7 "OutOrder$Rules" 4 91) (hr : (jZh Z).sig.returnType = none) (hE : E.2.2.2 = jLX)  (h0 : Nat) (v1 : Int32) (h2 : Nat) (h3 : Nat) (v4 : Int32) (r0 : Nat) (s1 : Int32) (s2 : Int32) (I : jM) (g_h0 : jOB E 7 h0) (g_h2 : jOB E 8 h2) (g_h3 : jOB E 6 h3) (g_r0 : jOB E 7 r0) {K : jM → Prop} {X11 : Int32 × jM → Prop} (hX11 : ∀ s : Int32 × jM, X11 s → jJ Z E 7 (jQv Z E K) 11 [(0, .ref (E.2.2.1 h0)), (1, .int v1), (2, .ref (E.2.2.1 h2)), (3, .ref (E.2.2.1 h3)), (4, .int s.1)] [] s.2) (h : RU_greedy_55 h0 v1 h2 h3 v4 r0 s1 s2 I K X11) : jJ Z E 7 (jQv Z E K) 55 [(0, .ref (E.2.2.1 h0)), (1, .int v1), (2, .ref (E.2.2.1 h2)), (3, .ref (E.2.2.1 h3)), (4, .int v4)] [.int s2, .int s1, .ref (E.2.2.1 r0)] I := by
  unfold RU_greedy_55 at h
  refine j_callVi (As := [.int s1, .int s2]) C jcl_RU cw_RU_34 w_477 ws_11 g_r0 rfl rfl (by decide) (by decide) (Nat.le_of_ble_eq_true rfl) d_RU_greedy_55 (s_RU_cheapest C.ok hE g_r0 h) (fun r_1 I2 h => ?_)
  obtain ⟨rfl, h⟩ := h
  refine j_istore C d_RU_greedy_58 (by decide) (lv' := [(6, .int r_1), (0, .ref (E.2.2.1 h0)), (1, .int v1), (2, .ref (E.2.2.1 h2)), (3, .ref (E.2.2.1 h3)), (4, .int v4)]) rfl ?_
  refine j_aload_n C d_RU_greedy_60 rfl 4 rfl ?_
  refine j_iload C d_RU_greedy_61 5 rfl ?_
  refine j_iload C d_RU_greedy_63 0 rfl ?_
  refine j_callVv (As := [.int v4, .int r_1]) C jcl_RO cw_RU_38 w_289 w_290 g_h3 rfl rfl (by decide) (by decide) (Nat.le_of_ble_eq_true rfl) d_RU_greedy_65 (s_RO_set C.ok hE g_h3 h) (fun I_3 h => ?_)
  refine j_aload_n C d_RU_greedy_68 rfl 1 rfl ?_
  refine fg_RU_12 C g_h0 d_RU_greedy_69 ?_
  refine j_iload C d_RU_greedy_72 0 rfl ?_
  refine j_callVv (As := [.int r_1]) C jcl_NE cw_RU_44 w_466 w_467 (sh_RU_0 hE g_h0) rfl rfl (by decide) (by decide) (Nat.le_of_ble_eq_true rfl) d_RU_greedy_74 (s_NE_remove C.ok hE (sh_RU_0 hE g_h0) h) (fun I_5 h => ?_)
  refine j_iinc C d_RU_greedy_77 5 rfl (v := (v4 + 1)) rfl (by decide) (lv' := [(4, .int (v4 + 1)), (6, .int r_1), (0, .ref (E.2.2.1 h0)), (1, .int v1), (2, .ref (E.2.2.1 h2)), (3, .ref (E.2.2.1 h3))]) rfl ?_
  refine j_goto C d_RU_greedy_80 (tgt := 11) (by decide) ?_
  refine j_lv [2, 3, 4, 5, 0] rfl ?_
  exact hX11 ((v4 + 1), I_5) h
def RU_greedy_11b (h0 : Nat) (v1 : Int32) (h2 : Nat) (h3 : Nat) (v4 : Int32) (I : jM) (K : jM → Prop) (X11 : Int32 × jM → Prop) : Prop :=
  (((I h2 4) ≤ v4 → K I) ∧ (¬ (I h2 4) ≤ v4 → (∀ v5_1 : Int32, v5_1 = ((I (jr h0 0) 1) &&& ((I h2 5) ^^^ (-1 : Int32))) → ((v5_1 = 0 → RU_greedy_55 h0 v1 h2 h3 v4 h0 v1 (I (jr h0 0) 1) I K X11) ∧ (¬ v5_1 = 0 → RU_greedy_55 h0 v1 h2 h3 v4 h0 v1 v5_1 I K X11)))))
def RU_greedy_11 (h0 : Nat) (v1 : Int32) (h2 : Nat) (h3 : Nat) (v4 : Int32) (I : jM) (K : jM → Prop) : Prop :=
  lp (fun (X11 : Int32 × jM → Prop) (s : Int32 × jM) => RU_greedy_11b h0 v1 h2 h3 s.1 s.2 K X11) (v4, I)
set_option maxRecDepth 100000 in
set_option maxHeartbeats 4000000 in
theorem kb_RU_greedy_11 {Z : jZ} {E : jE} (C : jC Z E prog_10_method_2_code 7 "OutOrder$Rules" 4 91) (hr : (jZh Z).sig.returnType = none) (hE : E.2.2.2 = jLX)  (h0 : Nat) (v1 : Int32) (h2 : Nat) (h3 : Nat) (v4 : Int32) (I : jM) (g_h0 : jOB E 7 h0) (g_h2 : jOB E 8 h2) (g_h3 : jOB E 6 h3) {K : jM → Prop} {X11 : Int32 × jM → Prop} (hX11 : ∀ s : Int32 × jM, X11 s → jJ Z E 7 (jQv Z E K) 11 [(0, .ref (E.2.2.1 h0)), (1, .int v1), (2, .ref (E.2.2.1 h2)), (3, .ref (E.2.2.1 h3)), (4, .int s.1)] [] s.2) (h : RU_greedy_11b h0 v1 h2 h3 v4 I K X11) : jJ Z E 7 (jQv Z E K) 11 [(0, .ref (E.2.2.1 h0)), (1, .int v1), (2, .ref (E.2.2.1 h2)), (3, .ref (E.2.2.1 h3)), (4, .int v4)] [] I := by
  unfold RU_greedy_11b at h
  refine j_iload C d_RU_greedy_11 4 rfl ?_
  refine j_aload_n C d_RU_greedy_13 rfl 2 rfl ?_
  refine fg_RU_22 C g_h2 d_RU_greedy_14 ?_
  refine j_icmp_ge C d_RU_greedy_17 (tgt := 83) (by decide) (fun c17 => ?_) (fun c17 => ?_)
  · have h := h.1 c17
    exact j_vret C hr d_RU_greedy_83 h
  · have h := h.2 c17
    refine j_aload_n C d_RU_greedy_20 rfl 0 rfl ?_
    refine fg_RU_12 C g_h0 d_RU_greedy_21 ?_
    refine fg_RU_28 C (sh_RU_0 hE g_h0) d_RU_greedy_24 ?_
    refine j_aload_n C d_RU_greedy_27 rfl 2 rfl ?_
    refine fg_RU_31 C g_h2 d_RU_greedy_28 ?_
    refine j_iconst C d_RU_greedy_31 ic_m1 ?_
    refine j_ixor C d_RU_greedy_32 ?_
    refine j_iand C d_RU_greedy_33 ?_
    refine j_topi (fun v5_1 ev5_1 => ?_)
    have h := h v5_1 ev5_1
    refine j_istore C d_RU_greedy_34 (by decide) (lv' := [(5, .int v5_1), (0, .ref (E.2.2.1 h0)), (1, .int v1), (2, .ref (E.2.2.1 h2)), (3, .ref (E.2.2.1 h3)), (4, .int v4)]) rfl ?_
    refine j_aload_n C d_RU_greedy_36 rfl 1 rfl ?_
    refine j_iload_n C d_RU_greedy_37 rfl 2 rfl ?_
    refine j_iload C d_RU_greedy_38 0 rfl ?_
    refine j_if_eq C d_RU_greedy_40 (tgt := 48) (by decide) (fun c40 => ?_) (fun c40 => ?_)
    · have h := h.1 c40
      refine j_aload_n C d_RU_greedy_48 rfl 1 rfl ?_
      refine fg_RU_12 C g_h0 d_RU_greedy_49 ?_
      refine fg_RU_28 C (sh_RU_0 hE g_h0) d_RU_greedy_52 ?_
      refine j_lv [1, 2, 3, 4, 5] rfl ?_
      exact k_RU_greedy_55 C hr hE h0 v1 h2 h3 v4 h0 v1 (I (jr h0 0) 1) I g_h0 g_h2 g_h3 g_h0 hX11 h
    · have h := h.2 c40
      refine j_iload C d_RU_greedy_43 0 rfl ?_
      refine j_goto C d_RU_greedy_45 (tgt := 55) (by decide) ?_
      refine j_lv [1, 2, 3, 4, 5] rfl ?_
      exact k_RU_greedy_55 C hr hE h0 v1 h2 h3 v4 h0 v1 v5_1 I g_h0 g_h2 g_h3 g_h0 hX11 h
theorem k_RU_greedy_11 {Z : jZ} {E : jE} (C : jC Z E prog_10_method_2_code 7 "OutOrder$Rules" 4 91) (hr : (jZh Z).sig.returnType = none) (hE : E.2.2.2 = jLX)  (h0 : Nat) (v1 : Int32) (h2 : Nat) (h3 : Nat) (v4 : Int32) (I : jM) (g_h0 : jOB E 7 h0) (g_h2 : jOB E 8 h2) (g_h3 : jOB E 6 h3) {K : jM → Prop} (h : RU_greedy_11 h0 v1 h2 h3 v4 I K) : jJ Z E 7 (jQv Z E K) 11 [(0, .ref (E.2.2.1 h0)), (1, .int v1), (2, .ref (E.2.2.1 h2)), (3, .ref (E.2.2.1 h3)), (4, .int v4)] [] I := by
  unfold RU_greedy_11 at h
  exact h (fun s => jJ Z E 7 (jQv Z E K) 11 [(0, .ref (E.2.2.1 h0)), (1, .int v1), (2, .ref (E.2.2.1 h2)), (3, .ref (E.2.2.1 h3)), (4, .int s.1)] [] s.2) (fun s hs => kb_RU_greedy_11 C hr hE h0 v1 h2 h3 s.1 s.2 g_h0 g_h2 g_h3 (fun s2 h2 => h2) hs)
/-- OutOrder$Rules.greedy(ILOutOrder$Table;LOutOrder$Row;)V -/
def RU_greedy (h0 : Nat) (v1 : Int32) (h2 : Nat) (h3 : Nat) (I : jM) (K : jM → Prop) : Prop :=
  NE_take (jr h0 0) h2 I (fun I_2 => RU_greedy_11 h0 v1 h2 h3 (0 : Int32) I_2 K)
set_option maxRecDepth 100000 in
set_option maxHeartbeats 4000000 in
theorem s_RU_greedy {l : Launch} {E : jE} (ok : jOK E) (hE : E.2.2.2 = jLX) {h0 : Nat} {v1 : Int32} {h2 : Nat} {h3 : Nat} (g_h0 : jOB E 7 h0) (g_h2 : jOB E 8 h2) (g_h3 : jOB E 6 h3) {I : jM} {K : jM → Prop} (h : RU_greedy h0 v1 h2 h3 I K) : jSv l E ⟨"OutOrder$Rules", "greedy", "(ILOutOrder$Table;LOutOrder$Row;)V"⟩ prog_10_method_2_code 7 none 4 91 [.ref (E.2.2.1 h0), .int v1, .ref (E.2.2.1 h2), .ref (E.2.2.1 h3)] I K := by
  refine jS_ofF (own := "OutOrder$Rules") (by decide +kernel) rfl ok (Nat.le_of_ble_eq_true rfl) (fun Z _ C hr => ?_)
  show jJ Z E 7 (jQv Z E K) 0 [(0, .ref (E.2.2.1 h0)), (1, .int v1), (2, .ref (E.2.2.1 h2)), (3, .ref (E.2.2.1 h3))] [] I
  unfold RU_greedy at h
  refine j_aload_n C d_RU_greedy_0 rfl 0 rfl ?_
  refine fg_RU_12 C g_h0 d_RU_greedy_1 ?_
  refine j_aload_n C d_RU_greedy_4 rfl 2 rfl ?_
  refine j_callVv (As := [.ref (E.2.2.1 h2)]) C jcl_NE cw_RU_18 w_301 w_302 (sh_RU_0 hE g_h0) rfl rfl (by decide) (by decide) (Nat.le_of_ble_eq_true rfl) d_RU_greedy_5 (s_NE_take C.ok hE (sh_RU_0 hE g_h0) g_h2 h) (fun I_2 h => ?_)
  refine j_iconst C d_RU_greedy_8 ic_0 ?_
  refine j_istore C d_RU_greedy_9 (by decide) (lv' := [(4, .int (0 : Int32)), (0, .ref (E.2.2.1 h0)), (1, .int v1), (2, .ref (E.2.2.1 h2)), (3, .ref (E.2.2.1 h3))]) rfl ?_
  refine j_lv [1, 2, 3, 4, 0] rfl ?_
  exact k_RU_greedy_11 C hr hE h0 v1 h2 h3 (0 : Int32) I_2 g_h0 g_h2 g_h3 h
theorem d_RU_mostJoined_0 : decode prog_10_method_6_code 0 = .ok (.iconst 0, 1) := by decide +kernel
theorem d_RU_mostJoined_1 : decode prog_10_method_6_code 1 = .ok (.istore_n 2, 1) := by decide +kernel
theorem d_RU_mostJoined_2 : decode prog_10_method_6_code 2 = .ok (.iconst (-1), 1) := by decide +kernel
theorem d_RU_mostJoined_3 : decode prog_10_method_6_code 3 = .ok (.istore_n 3, 1) := by decide +kernel
theorem d_RU_mostJoined_4 : decode prog_10_method_6_code 4 = .ok (.iconst 0, 1) := by decide +kernel
theorem d_RU_mostJoined_5 : decode prog_10_method_6_code 5 = .ok (.istore 4, 2) := by decide +kernel
theorem d_RU_mostJoined_7 : decode prog_10_method_6_code 7 = .ok (.iload 4, 2) := by decide +kernel
theorem d_RU_mostJoined_9 : decode prog_10_method_6_code 9 = .ok (.aload_n 0, 1) := by decide +kernel
theorem d_RU_mostJoined_10 : decode prog_10_method_6_code 10 = .ok (.getfield 22, 3) := by decide +kernel
theorem d_RU_mostJoined_13 : decode prog_10_method_6_code 13 = .ok (.if_icmp .ge 44, 3) := by decide +kernel
theorem d_RU_mostJoined_16 : decode prog_10_method_6_code 16 = .ok (.aload_n 0, 1) := by decide +kernel
theorem d_RU_mostJoined_17 : decode prog_10_method_6_code 17 = .ok (.getfield 69, 3) := by decide +kernel
theorem d_RU_mostJoined_20 : decode prog_10_method_6_code 20 = .ok (.iload 4, 2) := by decide +kernel
theorem d_RU_mostJoined_22 : decode prog_10_method_6_code 22 = .ok (.iaload, 1) := by decide +kernel
theorem d_RU_mostJoined_23 : decode prog_10_method_6_code 23 = .ok (.iload_n 1, 1) := by decide +kernel
theorem d_RU_mostJoined_24 : decode prog_10_method_6_code 24 = .ok (.iand, 1) := by decide +kernel
theorem d_RU_mostJoined_25 : decode prog_10_method_6_code 25 = .ok (.invokestatic 56, 3) := by decide +kernel
theorem d_RU_mostJoined_28 : decode prog_10_method_6_code 28 = .ok (.istore 5, 2) := by decide +kernel
theorem d_RU_mostJoined_30 : decode prog_10_method_6_code 30 = .ok (.iload_n 1, 1) := by decide +kernel
theorem d_RU_mostJoined_31 : decode prog_10_method_6_code 31 = .ok (.iload 4, 2) := by decide +kernel
theorem d_RU_mostJoined_33 : decode prog_10_method_6_code 33 = .ok (.ishr, 1) := by decide +kernel
theorem d_RU_mostJoined_34 : decode prog_10_method_6_code 34 = .ok (.iconst 1, 1) := by decide +kernel
theorem d_RU_mostJoined_35 : decode prog_10_method_6_code 35 = .ok (.iand, 1) := by decide +kernel
theorem d_RU_mostJoined_36 : decode prog_10_method_6_code 36 = .ok (.ifCond .ne 15, 3) := by decide +kernel
theorem d_RU_mostJoined_39 : decode prog_10_method_6_code 39 = .ok (.iload 5, 2) := by decide +kernel
theorem d_RU_mostJoined_41 : decode prog_10_method_6_code 41 = .ok (.iload_n 3, 1) := by decide +kernel
theorem d_RU_mostJoined_42 : decode prog_10_method_6_code 42 = .ok (.if_icmp .le 9, 3) := by decide +kernel
theorem d_RU_mostJoined_45 : decode prog_10_method_6_code 45 = .ok (.iload 4, 2) := by decide +kernel
theorem d_RU_mostJoined_47 : decode prog_10_method_6_code 47 = .ok (.istore_n 2, 1) := by decide +kernel
theorem d_RU_mostJoined_48 : decode prog_10_method_6_code 48 = .ok (.iload 5, 2) := by decide +kernel
theorem d_RU_mostJoined_50 : decode prog_10_method_6_code 50 = .ok (.istore_n 3, 1) := by decide +kernel
theorem d_RU_mostJoined_51 : decode prog_10_method_6_code 51 = .ok (.iinc 4 1, 3) := by decide +kernel
theorem d_RU_mostJoined_54 : decode prog_10_method_6_code 54 = .ok (.goto (-47), 3) := by decide +kernel
theorem d_RU_mostJoined_57 : decode prog_10_method_6_code 57 = .ok (.iload_n 2, 1) := by decide +kernel
theorem d_RU_mostJoined_58 : decode prog_10_method_6_code 58 = .ok (.ireturn, 1) := by decide +kernel
def RU_mostJoined_7b (h0 : Nat) (v1 : Int32) (v2 : Int32) (v3 : Int32) (v4 : Int32) (I : jM) (K : Int32 → Prop) (X7 : Int32 × Int32 × Int32 → Prop) : Prop :=
  (((I h0 4) ≤ v4 → K v2) ∧ (¬ (I h0 4) ≤ v4 → (vp_in v4 24 ∧ JI_bitCount ((I (jr h0 2) v4.toNatClampNeg) &&& v1) I (fun r_1 => ((¬ ((v1 >>> (v4 &&& 31)) &&& (1 : Int32)) = 0 → X7 (v2, v3, (v4 + 1))) ∧ (((v1 >>> (v4 &&& 31)) &&& (1 : Int32)) = 0 → ((r_1 ≤ v3 → X7 (v2, v3, (v4 + 1))) ∧ (¬ r_1 ≤ v3 → X7 (v4, r_1, (v4 + 1))))))))))
def RU_mostJoined_7 (h0 : Nat) (v1 : Int32) (v2 : Int32) (v3 : Int32) (v4 : Int32) (I : jM) (K : Int32 → Prop) : Prop :=
  lp (fun (X7 : Int32 × Int32 × Int32 → Prop) (s : Int32 × Int32 × Int32) => RU_mostJoined_7b h0 v1 s.1 s.2.1 s.2.2 I K X7) (v2, v3, v4)
set_option maxRecDepth 100000 in
set_option maxHeartbeats 4000000 in
theorem kb_RU_mostJoined_7 {Z : jZ} {E : jE} (C : jC Z E prog_10_method_6_code 6 "OutOrder$Rules" 1 20) (hr : (jZh Z).sig.returnType = (some .int)) (hE : E.2.2.2 = jLX)  (h0 : Nat) (v1 : Int32) (v2 : Int32) (v3 : Int32) (v4 : Int32) (I : jM) (g_h0 : jOB E 8 h0) {K : Int32 → Prop} {X7 : Int32 × Int32 × Int32 → Prop} (hX7 : ∀ s : Int32 × Int32 × Int32, X7 s → jJ Z E 6 (jQi Z E (fun r I2 => I = I2 ∧ K r)) 7 [(0, .ref (E.2.2.1 h0)), (1, .int v1), (2, .int s.1), (3, .int s.2.1), (4, .int s.2.2)] [] I) (h : RU_mostJoined_7b h0 v1 v2 v3 v4 I K X7) : jJ Z E 6 (jQi Z E (fun r I2 => I = I2 ∧ K r)) 7 [(0, .ref (E.2.2.1 h0)), (1, .int v1), (2, .int v2), (3, .int v3), (4, .int v4)] [] I := by
  unfold RU_mostJoined_7b at h
  refine j_iload C d_RU_mostJoined_7 4 rfl ?_
  refine j_aload_n C d_RU_mostJoined_9 rfl 0 rfl ?_
  refine fg_RU_22 C g_h0 d_RU_mostJoined_10 ?_
  refine j_icmp_ge C d_RU_mostJoined_13 (tgt := 57) (by decide) (fun c13 => ?_) (fun c13 => ?_)
  · have h := h.1 c13
    refine j_iload_n C d_RU_mostJoined_57 rfl 2 rfl ?_
    exact j_iret C hr d_RU_mostJoined_58 ⟨rfl, h⟩
  · have h := h.2 c13
    refine j_aload_n C d_RU_mostJoined_16 rfl 0 rfl ?_
    refine fg_RU_69 C g_h0 d_RU_mostJoined_17 ?_
    refine j_iload C d_RU_mostJoined_20 4 rfl ?_
    obtain ⟨hi, h⟩ := h
    refine j_iaload C (sh_TA_2 hE g_h0) hi d_RU_mostJoined_22 ?_
    refine j_iload_n C d_RU_mostJoined_23 rfl 1 rfl ?_
    refine j_iand C d_RU_mostJoined_24 ?_
    refine j_callSi (As := [.int ((I (jr h0 2) v4.toNatClampNeg) &&& v1)]) C cw_RU_56 w_412 rfl rfl (by decide) (by decide) (Nat.le_of_ble_eq_true rfl) d_RU_mostJoined_25 (s_JI_bitCount C.ok  h) (fun r_1 I2 h => ?_)
    obtain ⟨rfl, h⟩ := h
    refine j_istore C d_RU_mostJoined_28 (by decide) (lv' := [(5, .int r_1), (0, .ref (E.2.2.1 h0)), (1, .int v1), (2, .int v2), (3, .int v3), (4, .int v4)]) rfl ?_
    refine j_iload_n C d_RU_mostJoined_30 rfl 2 rfl ?_
    refine j_iload C d_RU_mostJoined_31 5 rfl ?_
    refine j_ishr C d_RU_mostJoined_33 ?_
    refine j_iconst C d_RU_mostJoined_34 ic_1 ?_
    refine j_iand C d_RU_mostJoined_35 ?_
    refine j_if_ne C d_RU_mostJoined_36 (tgt := 51) (by decide) (fun c36 => ?_) (fun c36 => ?_)
    · have h := h.1 c36
      refine j_iinc C d_RU_mostJoined_51 5 rfl (v := (v4 + 1)) rfl (by decide) (lv' := [(4, .int (v4 + 1)), (5, .int r_1), (0, .ref (E.2.2.1 h0)), (1, .int v1), (2, .int v2), (3, .int v3)]) rfl ?_
      refine j_goto C d_RU_mostJoined_54 (tgt := 7) (by decide) ?_
      refine j_lv [2, 3, 4, 5, 0] rfl ?_
      exact hX7 (v2, v3, (v4 + 1)) h
    · have h := h.2 c36
      refine j_iload C d_RU_mostJoined_39 0 rfl ?_
      refine j_iload_n C d_RU_mostJoined_41 rfl 4 rfl ?_
      refine j_icmp_le C d_RU_mostJoined_42 (tgt := 51) (by decide) (fun c42 => ?_) (fun c42 => ?_)
      · have h := h.1 c42
        refine j_iinc C d_RU_mostJoined_51 5 rfl (v := (v4 + 1)) rfl (by decide) (lv' := [(4, .int (v4 + 1)), (5, .int r_1), (0, .ref (E.2.2.1 h0)), (1, .int v1), (2, .int v2), (3, .int v3)]) rfl ?_
        refine j_goto C d_RU_mostJoined_54 (tgt := 7) (by decide) ?_
        refine j_lv [2, 3, 4, 5, 0] rfl ?_
        exact hX7 (v2, v3, (v4 + 1)) h
      · have h := h.2 c42
        refine j_iload C d_RU_mostJoined_45 5 rfl ?_
        refine j_istore_n C d_RU_mostJoined_47 rfl (by decide) (lv' := [(2, .int v4), (5, .int r_1), (0, .ref (E.2.2.1 h0)), (1, .int v1), (3, .int v3), (4, .int v4)]) rfl ?_
        refine j_iload C d_RU_mostJoined_48 1 rfl ?_
        refine j_istore_n C d_RU_mostJoined_50 rfl (by decide) (lv' := [(3, .int r_1), (2, .int v4), (5, .int r_1), (0, .ref (E.2.2.1 h0)), (1, .int v1), (4, .int v4)]) rfl ?_
        refine j_iinc C d_RU_mostJoined_51 5 rfl (v := (v4 + 1)) rfl (by decide) (lv' := [(4, .int (v4 + 1)), (3, .int r_1), (2, .int v4), (5, .int r_1), (0, .ref (E.2.2.1 h0)), (1, .int v1)]) rfl ?_
        refine j_goto C d_RU_mostJoined_54 (tgt := 7) (by decide) ?_
        refine j_lv [4, 5, 2, 1, 0] rfl ?_
        exact hX7 (v4, r_1, (v4 + 1)) h
theorem k_RU_mostJoined_7 {Z : jZ} {E : jE} (C : jC Z E prog_10_method_6_code 6 "OutOrder$Rules" 1 20) (hr : (jZh Z).sig.returnType = (some .int)) (hE : E.2.2.2 = jLX)  (h0 : Nat) (v1 : Int32) (v2 : Int32) (v3 : Int32) (v4 : Int32) (I : jM) (g_h0 : jOB E 8 h0) {K : Int32 → Prop} (h : RU_mostJoined_7 h0 v1 v2 v3 v4 I K) : jJ Z E 6 (jQi Z E (fun r I2 => I = I2 ∧ K r)) 7 [(0, .ref (E.2.2.1 h0)), (1, .int v1), (2, .int v2), (3, .int v3), (4, .int v4)] [] I := by
  unfold RU_mostJoined_7 at h
  exact h (fun s => jJ Z E 6 (jQi Z E (fun r I2 => I = I2 ∧ K r)) 7 [(0, .ref (E.2.2.1 h0)), (1, .int v1), (2, .int s.1), (3, .int s.2.1), (4, .int s.2.2)] [] I) (fun s hs => kb_RU_mostJoined_7 C hr hE h0 v1 s.1 s.2.1 s.2.2 I g_h0 (fun s2 h2 => h2) hs)
/-- OutOrder$Rules.mostJoined(LOutOrder$Table;I)I -/
def RU_mostJoined (h0 : Nat) (v1 : Int32) (I : jM) (K : Int32 → Prop) : Prop :=
  RU_mostJoined_7 h0 v1 (0 : Int32) (-1 : Int32) (0 : Int32) I K
set_option maxRecDepth 100000 in
set_option maxHeartbeats 4000000 in
theorem s_RU_mostJoined {l : Launch} {E : jE} (ok : jOK E) (hE : E.2.2.2 = jLX) {h0 : Nat} {v1 : Int32} (g_h0 : jOB E 8 h0) {I : jM} {K : Int32 → Prop} (h : RU_mostJoined h0 v1 I K) : jSi l E ⟨"OutOrder$Rules", "mostJoined", "(LOutOrder$Table;I)I"⟩ prog_10_method_6_code 6 (some .int) 1 20 [.ref (E.2.2.1 h0), .int v1] I (fun r I2 => I = I2 ∧ K r) := by
  refine jS_ofF (own := "OutOrder$Rules") (by decide +kernel) rfl ok (Nat.le_of_ble_eq_true rfl) (fun Z _ C hr => ?_)
  show jJ Z E 6 (jQi Z E (fun r I2 => I = I2 ∧ K r)) 0 [(0, .ref (E.2.2.1 h0)), (1, .int v1)] [] I
  unfold RU_mostJoined at h
  refine j_iconst C d_RU_mostJoined_0 ic_0 ?_
  refine j_istore_n C d_RU_mostJoined_1 rfl (by decide) (lv' := [(2, .int (0 : Int32)), (0, .ref (E.2.2.1 h0)), (1, .int v1)]) rfl ?_
  refine j_iconst C d_RU_mostJoined_2 ic_m1 ?_
  refine j_istore_n C d_RU_mostJoined_3 rfl (by decide) (lv' := [(3, .int (-1 : Int32)), (2, .int (0 : Int32)), (0, .ref (E.2.2.1 h0)), (1, .int v1)]) rfl ?_
  refine j_iconst C d_RU_mostJoined_4 ic_0 ?_
  refine j_istore C d_RU_mostJoined_5 (by decide) (lv' := [(4, .int (0 : Int32)), (3, .int (-1 : Int32)), (2, .int (0 : Int32)), (0, .ref (E.2.2.1 h0)), (1, .int v1)]) rfl ?_
  refine j_lv [3, 4, 2, 1, 0] rfl ?_
  exact k_RU_mostJoined_7 C hr hE h0 v1 (0 : Int32) (-1 : Int32) (0 : Int32) I g_h0 h
theorem d_RU_search_0 : decode prog_10_method_5_code 0 = .ok (.iconst 0, 1) := by decide +kernel
theorem d_RU_search_1 : decode prog_10_method_5_code 1 = .ok (.istore_n 3, 1) := by decide +kernel
theorem d_RU_search_2 : decode prog_10_method_5_code 2 = .ok (.aload_n 1, 1) := by decide +kernel
theorem d_RU_search_3 : decode prog_10_method_5_code 3 = .ok (.getfield 22, 3) := by decide +kernel
theorem d_RU_search_6 : decode prog_10_method_5_code 6 = .ok (.iconst 1, 1) := by decide +kernel
theorem d_RU_search_7 : decode prog_10_method_5_code 7 = .ok (.isub, 1) := by decide +kernel
theorem d_RU_search_8 : decode prog_10_method_5_code 8 = .ok (.istore 4, 2) := by decide +kernel
theorem d_RU_search_10 : decode prog_10_method_5_code 10 = .ok (.iload 4, 2) := by decide +kernel
theorem d_RU_search_12 : decode prog_10_method_5_code 12 = .ok (.ifCond .lt 31, 3) := by decide +kernel
theorem d_RU_search_15 : decode prog_10_method_5_code 15 = .ok (.aload_n 1, 1) := by decide +kernel
theorem d_RU_search_16 : decode prog_10_method_5_code 16 = .ok (.iload_n 3, 1) := by decide +kernel
theorem d_RU_search_17 : decode prog_10_method_5_code 17 = .ok (.invokestatic 65, 3) := by decide +kernel
theorem d_RU_search_20 : decode prog_10_method_5_code 20 = .ok (.istore 5, 2) := by decide +kernel
theorem d_RU_search_22 : decode prog_10_method_5_code 22 = .ok (.aload_n 2, 1) := by decide +kernel
theorem d_RU_search_23 : decode prog_10_method_5_code 23 = .ok (.iload 4, 2) := by decide +kernel
theorem d_RU_search_25 : decode prog_10_method_5_code 25 = .ok (.iload 5, 2) := by decide +kernel
theorem d_RU_search_27 : decode prog_10_method_5_code 27 = .ok (.invokevirtual 38, 3) := by decide +kernel
theorem d_RU_search_30 : decode prog_10_method_5_code 30 = .ok (.iload_n 3, 1) := by decide +kernel
theorem d_RU_search_31 : decode prog_10_method_5_code 31 = .ok (.iconst 1, 1) := by decide +kernel
theorem d_RU_search_32 : decode prog_10_method_5_code 32 = .ok (.iload 5, 2) := by decide +kernel
theorem d_RU_search_34 : decode prog_10_method_5_code 34 = .ok (.ishl, 1) := by decide +kernel
theorem d_RU_search_35 : decode prog_10_method_5_code 35 = .ok (.ior, 1) := by decide +kernel
theorem d_RU_search_36 : decode prog_10_method_5_code 36 = .ok (.istore_n 3, 1) := by decide +kernel
theorem d_RU_search_37 : decode prog_10_method_5_code 37 = .ok (.iinc 4 (-1), 3) := by decide +kernel
theorem d_RU_search_40 : decode prog_10_method_5_code 40 = .ok (.goto (-30), 3) := by decide +kernel
theorem d_RU_search_43 : decode prog_10_method_5_code 43 = .ok (.return_, 1) := by decide +kernel
def RU_search_10b (h1 : Nat) (h2 : Nat) (v3 : Int32) (v4 : Int32) (I : jM) (K : jM → Prop) (X10 : Int32 × Int32 × jM → Prop) : Prop :=
  ((v4 < 0 → K I) ∧ (¬ v4 < 0 → RU_mostJoined h1 v3 I (fun r_1 => RO_set h2 v4 r_1 I (fun I_3 => (∀ v3_4 : Int32, v3_4 = (v3 ||| ((1 : Int32) <<< (r_1 &&& 31))) → X10 (v3_4, (v4 + (-1)), I_3))))))
def RU_search_10 (h1 : Nat) (h2 : Nat) (v3 : Int32) (v4 : Int32) (I : jM) (K : jM → Prop) : Prop :=
  lp (fun (X10 : Int32 × Int32 × jM → Prop) (s : Int32 × Int32 × jM) => RU_search_10b h1 h2 s.1 s.2.1 s.2.2 K X10) (v3, v4, I)
set_option maxRecDepth 100000 in
set_option maxHeartbeats 4000000 in
theorem kb_RU_search_10 {Z : jZ} {E : jE} (C : jC Z E prog_10_method_5_code 6 "OutOrder$Rules" 2 45) (hr : (jZh Z).sig.returnType = none) (hE : E.2.2.2 = jLX)  (h1 : Nat) (h2 : Nat) (v3 : Int32) (v4 : Int32) (I : jM) (g_h1 : jOB E 8 h1) (g_h2 : jOB E 6 h2) {K : jM → Prop} {X10 : Int32 × Int32 × jM → Prop} (hX10 : ∀ s : Int32 × Int32 × jM, X10 s → jJ Z E 6 (jQv Z E K) 10 [(1, .ref (E.2.2.1 h1)), (2, .ref (E.2.2.1 h2)), (3, .int s.1), (4, .int s.2.1)] [] s.2.2) (h : RU_search_10b h1 h2 v3 v4 I K X10) : jJ Z E 6 (jQv Z E K) 10 [(1, .ref (E.2.2.1 h1)), (2, .ref (E.2.2.1 h2)), (3, .int v3), (4, .int v4)] [] I := by
  unfold RU_search_10b at h
  refine j_iload C d_RU_search_10 3 rfl ?_
  refine j_if_lt C d_RU_search_12 (tgt := 43) (by decide) (fun c12 => ?_) (fun c12 => ?_)
  · have h := h.1 c12
    exact j_vret C hr d_RU_search_43 h
  · have h := h.2 c12
    refine j_aload_n C d_RU_search_15 rfl 0 rfl ?_
    refine j_iload_n C d_RU_search_16 rfl 2 rfl ?_
    refine j_callSi (As := [.ref (E.2.2.1 h1), .int v3]) C cw_RU_65 w_409 rfl rfl (by decide) (by decide) (Nat.le_of_ble_eq_true rfl) d_RU_search_17 (s_RU_mostJoined C.ok hE g_h1 h) (fun r_1 I2 h => ?_)
    obtain ⟨rfl, h⟩ := h
    refine j_istore C d_RU_search_20 (by decide) (lv' := [(5, .int r_1), (1, .ref (E.2.2.1 h1)), (2, .ref (E.2.2.1 h2)), (3, .int v3), (4, .int v4)]) rfl ?_
    refine j_aload_n C d_RU_search_22 rfl 2 rfl ?_
    refine j_iload C d_RU_search_23 4 rfl ?_
    refine j_iload C d_RU_search_25 0 rfl ?_
    refine j_callVv (As := [.int v4, .int r_1]) C jcl_RO cw_RU_38 w_289 w_290 g_h2 rfl rfl (by decide) (by decide) (Nat.le_of_ble_eq_true rfl) d_RU_search_27 (s_RO_set C.ok hE g_h2 h) (fun I_3 h => ?_)
    refine j_iload_n C d_RU_search_30 rfl 3 rfl ?_
    refine j_iconst C d_RU_search_31 ic_1 ?_
    refine j_iload C d_RU_search_32 0 rfl ?_
    refine j_ishl C d_RU_search_34 ?_
    refine j_ior C d_RU_search_35 ?_
    refine j_topi (fun v3_4 ev3_4 => ?_)
    have h := h v3_4 ev3_4
    refine j_istore_n C d_RU_search_36 rfl (by decide) (lv' := [(3, .int v3_4), (5, .int r_1), (1, .ref (E.2.2.1 h1)), (2, .ref (E.2.2.1 h2)), (4, .int v4)]) rfl ?_
    refine j_iinc C d_RU_search_37 4 rfl (v := (v4 + (-1))) rfl (by decide) (lv' := [(4, .int (v4 + (-1))), (3, .int v3_4), (5, .int r_1), (1, .ref (E.2.2.1 h1)), (2, .ref (E.2.2.1 h2))]) rfl ?_
    refine j_goto C d_RU_search_40 (tgt := 10) (by decide) ?_
    refine j_lv [3, 4, 1, 0] rfl ?_
    exact hX10 (v3_4, (v4 + (-1)), I_3) h
theorem k_RU_search_10 {Z : jZ} {E : jE} (C : jC Z E prog_10_method_5_code 6 "OutOrder$Rules" 2 45) (hr : (jZh Z).sig.returnType = none) (hE : E.2.2.2 = jLX)  (h1 : Nat) (h2 : Nat) (v3 : Int32) (v4 : Int32) (I : jM) (g_h1 : jOB E 8 h1) (g_h2 : jOB E 6 h2) {K : jM → Prop} (h : RU_search_10 h1 h2 v3 v4 I K) : jJ Z E 6 (jQv Z E K) 10 [(1, .ref (E.2.2.1 h1)), (2, .ref (E.2.2.1 h2)), (3, .int v3), (4, .int v4)] [] I := by
  unfold RU_search_10 at h
  exact h (fun s => jJ Z E 6 (jQv Z E K) 10 [(1, .ref (E.2.2.1 h1)), (2, .ref (E.2.2.1 h2)), (3, .int s.1), (4, .int s.2.1)] [] s.2.2) (fun s hs => kb_RU_search_10 C hr hE h1 h2 s.1 s.2.1 s.2.2 g_h1 g_h2 (fun s2 h2 => h2) hs)
/-- OutOrder$Rules.search(LOutOrder$Table;LOutOrder$Row;)V -/
def RU_search (h0 : Nat) (h1 : Nat) (h2 : Nat) (I : jM) (K : jM → Prop) : Prop :=
  (∀ v4_1 : Int32, v4_1 = ((I h1 4) - (1 : Int32)) → RU_search_10 h1 h2 (0 : Int32) v4_1 I K)
set_option maxRecDepth 100000 in
set_option maxHeartbeats 4000000 in
theorem s_RU_search {l : Launch} {E : jE} (ok : jOK E) (hE : E.2.2.2 = jLX) {h0 : Nat} {h1 : Nat} {h2 : Nat} (g_h0 : jOB E 7 h0) (g_h1 : jOB E 8 h1) (g_h2 : jOB E 6 h2) {I : jM} {K : jM → Prop} (h : RU_search h0 h1 h2 I K) : jSv l E ⟨"OutOrder$Rules", "search", "(LOutOrder$Table;LOutOrder$Row;)V"⟩ prog_10_method_5_code 6 none 2 45 [.ref (E.2.2.1 h0), .ref (E.2.2.1 h1), .ref (E.2.2.1 h2)] I K := by
  refine jS_ofF (own := "OutOrder$Rules") (by decide +kernel) rfl ok (Nat.le_of_ble_eq_true rfl) (fun Z _ C hr => ?_)
  show jJ Z E 6 (jQv Z E K) 0 [(0, .ref (E.2.2.1 h0)), (1, .ref (E.2.2.1 h1)), (2, .ref (E.2.2.1 h2))] [] I
  unfold RU_search at h
  refine j_iconst C d_RU_search_0 ic_0 ?_
  refine j_istore_n C d_RU_search_1 rfl (by decide) (lv' := [(3, .int (0 : Int32)), (0, .ref (E.2.2.1 h0)), (1, .ref (E.2.2.1 h1)), (2, .ref (E.2.2.1 h2))]) rfl ?_
  refine j_aload_n C d_RU_search_2 rfl 2 rfl ?_
  refine fg_RU_22 C g_h1 d_RU_search_3 ?_
  refine j_iconst C d_RU_search_6 ic_1 ?_
  refine j_isub C d_RU_search_7 ?_
  refine j_topi (fun v4_1 ev4_1 => ?_)
  have h := h v4_1 ev4_1
  refine j_istore C d_RU_search_8 (by decide) (lv' := [(4, .int v4_1), (3, .int (0 : Int32)), (0, .ref (E.2.2.1 h0)), (1, .ref (E.2.2.1 h1)), (2, .ref (E.2.2.1 h2))]) rfl ?_
  refine j_lv [3, 4, 1, 0] rfl ?_
  exact k_RU_search_10 C hr hE h1 h2 (0 : Int32) v4_1 I g_h1 g_h2 h
