theorem d_MD_isClean_0 : decode prog_14_method_35_code 0 = .ok (.aload_n 0, 1) := by decide +kernel
theorem d_MD_isClean_1 : decode prog_14_method_35_code 1 = .ok (.invokevirtual 100, 3) := by decide +kernel
theorem d_MD_isClean_4 : decode prog_14_method_35_code 4 = .ok (.iconst 1, 1) := by decide +kernel
theorem d_MD_isClean_5 : decode prog_14_method_35_code 5 = .ok (.aload_n 0, 1) := by decide +kernel
theorem d_MD_isClean_6 : decode prog_14_method_35_code 6 = .ok (.getfield 7, 3) := by decide +kernel
theorem d_MD_isClean_9 : decode prog_14_method_35_code 9 = .ok (.ishl, 1) := by decide +kernel
theorem d_MD_isClean_10 : decode prog_14_method_35_code 10 = .ok (.iconst 1, 1) := by decide +kernel
theorem d_MD_isClean_11 : decode prog_14_method_35_code 11 = .ok (.isub, 1) := by decide +kernel
theorem d_MD_isClean_12 : decode prog_14_method_35_code 12 = .ok (.istore_n 1, 1) := by decide +kernel
theorem d_MD_isClean_13 : decode prog_14_method_35_code 13 = .ok (.iconst 1, 1) := by decide +kernel
theorem d_MD_isClean_14 : decode prog_14_method_35_code 14 = .ok (.istore_n 2, 1) := by decide +kernel
theorem d_MD_isClean_15 : decode prog_14_method_35_code 15 = .ok (.iload_n 2, 1) := by decide +kernel
theorem d_MD_isClean_16 : decode prog_14_method_35_code 16 = .ok (.ifCond .eq 61, 3) := by decide +kernel
theorem d_MD_isClean_19 : decode prog_14_method_35_code 19 = .ok (.iconst 0, 1) := by decide +kernel
theorem d_MD_isClean_20 : decode prog_14_method_35_code 20 = .ok (.istore_n 2, 1) := by decide +kernel
theorem d_MD_isClean_21 : decode prog_14_method_35_code 21 = .ok (.iconst 0, 1) := by decide +kernel
theorem d_MD_isClean_22 : decode prog_14_method_35_code 22 = .ok (.istore_n 3, 1) := by decide +kernel
theorem d_MD_isClean_23 : decode prog_14_method_35_code 23 = .ok (.iload_n 3, 1) := by decide +kernel
theorem d_MD_isClean_24 : decode prog_14_method_35_code 24 = .ok (.aload_n 0, 1) := by decide +kernel
theorem d_MD_isClean_25 : decode prog_14_method_35_code 25 = .ok (.getfield 7, 3) := by decide +kernel
theorem d_MD_isClean_28 : decode prog_14_method_35_code 28 = .ok (.if_icmp .ge 46, 3) := by decide +kernel
theorem d_MD_isClean_31 : decode prog_14_method_35_code 31 = .ok (.iload_n 1, 1) := by decide +kernel
theorem d_MD_isClean_32 : decode prog_14_method_35_code 32 = .ok (.iload_n 3, 1) := by decide +kernel
theorem d_MD_isClean_33 : decode prog_14_method_35_code 33 = .ok (.ishr, 1) := by decide +kernel
theorem d_MD_isClean_34 : decode prog_14_method_35_code 34 = .ok (.iconst 1, 1) := by decide +kernel
theorem d_MD_isClean_35 : decode prog_14_method_35_code 35 = .ok (.iand, 1) := by decide +kernel
theorem d_MD_isClean_36 : decode prog_14_method_35_code 36 = .ok (.iconst 1, 1) := by decide +kernel
theorem d_MD_isClean_37 : decode prog_14_method_35_code 37 = .ok (.if_icmp .ne 31, 3) := by decide +kernel
theorem d_MD_isClean_40 : decode prog_14_method_35_code 40 = .ok (.aload_n 0, 1) := by decide +kernel
theorem d_MD_isClean_41 : decode prog_14_method_35_code 41 = .ok (.getfield 33, 3) := by decide +kernel
theorem d_MD_isClean_44 : decode prog_14_method_35_code 44 = .ok (.aload_n 0, 1) := by decide +kernel
theorem d_MD_isClean_45 : decode prog_14_method_35_code 45 = .ok (.getfield 33, 3) := by decide +kernel
theorem d_MD_isClean_48 : decode prog_14_method_35_code 48 = .ok (.iload_n 3, 1) := by decide +kernel
theorem d_MD_isClean_49 : decode prog_14_method_35_code 49 = .ok (.iaload, 1) := by decide +kernel
theorem d_MD_isClean_50 : decode prog_14_method_35_code 50 = .ok (.iload_n 1, 1) := by decide +kernel
theorem d_MD_isClean_51 : decode prog_14_method_35_code 51 = .ok (.iand, 1) := by decide +kernel
theorem d_MD_isClean_52 : decode prog_14_method_35_code 52 = .ok (.invokestatic 110, 3) := by decide +kernel
theorem d_MD_isClean_55 : decode prog_14_method_35_code 55 = .ok (.ifCond .ne 13, 3) := by decide +kernel
theorem d_MD_isClean_58 : decode prog_14_method_35_code 58 = .ok (.iload_n 1, 1) := by decide +kernel
theorem d_MD_isClean_59 : decode prog_14_method_35_code 59 = .ok (.iconst 1, 1) := by decide +kernel
theorem d_MD_isClean_60 : decode prog_14_method_35_code 60 = .ok (.iload_n 3, 1) := by decide +kernel
theorem d_MD_isClean_61 : decode prog_14_method_35_code 61 = .ok (.ishl, 1) := by decide +kernel
theorem d_MD_isClean_62 : decode prog_14_method_35_code 62 = .ok (.iconst (-1), 1) := by decide +kernel
theorem d_MD_isClean_63 : decode prog_14_method_35_code 63 = .ok (.ixor, 1) := by decide +kernel
theorem d_MD_isClean_64 : decode prog_14_method_35_code 64 = .ok (.iand, 1) := by decide +kernel
theorem d_MD_isClean_65 : decode prog_14_method_35_code 65 = .ok (.istore_n 1, 1) := by decide +kernel
theorem d_MD_isClean_66 : decode prog_14_method_35_code 66 = .ok (.iconst 1, 1) := by decide +kernel
theorem d_MD_isClean_67 : decode prog_14_method_35_code 67 = .ok (.istore_n 2, 1) := by decide +kernel
theorem d_MD_isClean_68 : decode prog_14_method_35_code 68 = .ok (.iinc 3 1, 3) := by decide +kernel
theorem d_MD_isClean_71 : decode prog_14_method_35_code 71 = .ok (.goto (-48), 3) := by decide +kernel
theorem d_MD_isClean_74 : decode prog_14_method_35_code 74 = .ok (.goto (-59), 3) := by decide +kernel
theorem d_MD_isClean_77 : decode prog_14_method_35_code 77 = .ok (.iload_n 1, 1) := by decide +kernel
theorem d_MD_isClean_78 : decode prog_14_method_35_code 78 = .ok (.ifCond .ne 7, 3) := by decide +kernel
theorem d_MD_isClean_81 : decode prog_14_method_35_code 81 = .ok (.iconst 1, 1) := by decide +kernel
theorem d_MD_isClean_82 : decode prog_14_method_35_code 82 = .ok (.goto 4, 3) := by decide +kernel
theorem d_MD_isClean_85 : decode prog_14_method_35_code 85 = .ok (.iconst 0, 1) := by decide +kernel
theorem d_MD_isClean_86 : decode prog_14_method_35_code 86 = .ok (.ireturn, 1) := by decide +kernel
def MD_isClean_23b (h0 : Nat) (v1 : Int32) (v2 : Int32) (v3 : Int32) (I : jM) (K : Int32 → jM → Prop) (X15 : Int32 × Int32 → Prop) (X23 : Int32 × Int32 × Int32 → Prop) : Prop :=
  (((I h0 0) ≤ v3 → X15 (v1, v2)) ∧ (¬ (I h0 0) ≤ v3 → ((¬ ((v1 >>> (v3 &&& 31)) &&& (1 : Int32)) = (1 : Int32) → X23 (v1, v2, (v3 + 1))) ∧ (((v1 >>> (v3 &&& 31)) &&& (1 : Int32)) = (1 : Int32) → (vp_in v3 24 ∧ MD_fillsOf (jr h0 7) ((I (jr h0 7) v3.toNatClampNeg) &&& v1) I (fun r_1 => ((¬ r_1 = 0 → X23 (v1, v2, (v3 + 1))) ∧ (r_1 = 0 → (∀ v1_2 : Int32, v1_2 = (v1 &&& (((1 : Int32) <<< (v3 &&& 31)) ^^^ (-1 : Int32))) → X23 (v1_2, (1 : Int32), (v3 + 1)))))))))))
def MD_isClean_23 (h0 : Nat) (v1 : Int32) (v2 : Int32) (v3 : Int32) (I : jM) (K : Int32 → jM → Prop) (X15 : Int32 × Int32 → Prop) : Prop :=
  lp (fun (X23 : Int32 × Int32 × Int32 → Prop) (s : Int32 × Int32 × Int32) => MD_isClean_23b h0 s.1 s.2.1 s.2.2 I K X15 X23) (v1, v2, v3)
set_option maxRecDepth 100000 in
set_option maxHeartbeats 4000000 in
theorem kb_MD_isClean_23 {Z : jZ} {E : jE} (C : jC Z E prog_14_method_35_code 4 "OutOrderModel" 2 45) (hr : (jZh Z).sig.returnType = (some .boolean)) (hE : E.2.2.2 = jLM)  (h0 : Nat) (v1 : Int32) (v2 : Int32) (v3 : Int32) (I : jM) (g_h0 : jOB E 11 h0) {K : Int32 → jM → Prop} {X15 : Int32 × Int32 → Prop} (hX15 : ∀ s : Int32 × Int32, X15 s → jJ Z E 4 (jQi Z E K) 15 [(0, .ref (E.2.2.1 h0)), (1, .int s.1), (2, .int s.2)] [] I) {X23 : Int32 × Int32 × Int32 → Prop} (hX23 : ∀ s : Int32 × Int32 × Int32, X23 s → jJ Z E 4 (jQi Z E K) 23 [(0, .ref (E.2.2.1 h0)), (1, .int s.1), (2, .int s.2.1), (3, .int s.2.2)] [] I) (h : MD_isClean_23b h0 v1 v2 v3 I K X15 X23) : jJ Z E 4 (jQi Z E K) 23 [(0, .ref (E.2.2.1 h0)), (1, .int v1), (2, .int v2), (3, .int v3)] [] I := by
  unfold MD_isClean_23b at h
  refine j_iload_n C d_MD_isClean_23 rfl 3 rfl ?_
  refine j_aload_n C d_MD_isClean_24 rfl 0 rfl ?_
  refine fg_MD_7 C g_h0 d_MD_isClean_25 ?_
  refine j_icmp_ge C d_MD_isClean_28 (tgt := 74) (by decide) (fun c28 => ?_) (fun c28 => ?_)
  · have h := h.1 c28
    refine j_goto C d_MD_isClean_74 (tgt := 15) (by decide) ?_
    refine j_lv [0, 1, 2] rfl ?_
    exact hX15 (v1, v2) h
  · have h := h.2 c28
    refine j_iload_n C d_MD_isClean_31 rfl 1 rfl ?_
    refine j_iload_n C d_MD_isClean_32 rfl 3 rfl ?_
    refine j_ishr C d_MD_isClean_33 ?_
    refine j_iconst C d_MD_isClean_34 ic_1 ?_
    refine j_iand C d_MD_isClean_35 ?_
    refine j_iconst C d_MD_isClean_36 ic_1 ?_
    refine j_icmp_ne C d_MD_isClean_37 (tgt := 68) (by decide) (fun c37 => ?_) (fun c37 => ?_)
    · have h := h.1 c37
      refine j_iinc C d_MD_isClean_68 3 rfl (v := (v3 + 1)) rfl (by decide) (lv' := [(3, .int (v3 + 1)), (0, .ref (E.2.2.1 h0)), (1, .int v1), (2, .int v2)]) rfl ?_
      refine j_goto C d_MD_isClean_71 (tgt := 23) (by decide) ?_
      refine j_lv [1, 2, 3, 0] rfl ?_
      exact hX23 (v1, v2, (v3 + 1)) h
    · have h := h.2 c37
      refine j_aload_n C d_MD_isClean_40 rfl 0 rfl ?_
      refine fg_MD_33 C g_h0 d_MD_isClean_41 ?_
      refine j_aload_n C d_MD_isClean_44 rfl 0 rfl ?_
      refine fg_MD_33 C g_h0 d_MD_isClean_45 ?_
      refine j_iload_n C d_MD_isClean_48 rfl 3 rfl ?_
      obtain ⟨hi, h⟩ := h
      refine j_iaload C (sh_MD_7 hE g_h0) hi d_MD_isClean_49 ?_
      refine j_iload_n C d_MD_isClean_50 rfl 1 rfl ?_
      refine j_iand C d_MD_isClean_51 ?_
      refine j_callSi (As := [.ref (E.2.2.1 (jr h0 7)), .int ((I (jr h0 7) v3.toNatClampNeg) &&& v1)]) C cw_MD_110 w_863 rfl rfl (by decide) (by decide) (Nat.le_of_ble_eq_true rfl) d_MD_isClean_52 (s_MD_fillsOf C.ok (((sh_MD_7 hE g_h0)).self) h) (fun r_1 I2 h => ?_)
      obtain ⟨rfl, h⟩ := h
      refine j_if_ne C d_MD_isClean_55 (tgt := 68) (by decide) (fun c55 => ?_) (fun c55 => ?_)
      · have h := h.1 c55
        refine j_iinc C d_MD_isClean_68 3 rfl (v := (v3 + 1)) rfl (by decide) (lv' := [(3, .int (v3 + 1)), (0, .ref (E.2.2.1 h0)), (1, .int v1), (2, .int v2)]) rfl ?_
        refine j_goto C d_MD_isClean_71 (tgt := 23) (by decide) ?_
        refine j_lv [1, 2, 3, 0] rfl ?_
        exact hX23 (v1, v2, (v3 + 1)) h
      · have h := h.2 c55
        refine j_iload_n C d_MD_isClean_58 rfl 1 rfl ?_
        refine j_iconst C d_MD_isClean_59 ic_1 ?_
        refine j_iload_n C d_MD_isClean_60 rfl 3 rfl ?_
        refine j_ishl C d_MD_isClean_61 ?_
        refine j_iconst C d_MD_isClean_62 ic_m1 ?_
        refine j_ixor C d_MD_isClean_63 ?_
        refine j_iand C d_MD_isClean_64 ?_
        refine j_topi (fun v1_2 ev1_2 => ?_)
        have h := h v1_2 ev1_2
        refine j_istore_n C d_MD_isClean_65 rfl (by decide) (lv' := [(1, .int v1_2), (0, .ref (E.2.2.1 h0)), (2, .int v2), (3, .int v3)]) rfl ?_
        refine j_iconst C d_MD_isClean_66 ic_1 ?_
        refine j_istore_n C d_MD_isClean_67 rfl (by decide) (lv' := [(2, .int (1 : Int32)), (1, .int v1_2), (0, .ref (E.2.2.1 h0)), (3, .int v3)]) rfl ?_
        refine j_iinc C d_MD_isClean_68 3 rfl (v := (v3 + 1)) rfl (by decide) (lv' := [(3, .int (v3 + 1)), (2, .int (1 : Int32)), (1, .int v1_2), (0, .ref (E.2.2.1 h0))]) rfl ?_
        refine j_goto C d_MD_isClean_71 (tgt := 23) (by decide) ?_
        refine j_lv [3, 2, 1, 0] rfl ?_
        exact hX23 (v1_2, (1 : Int32), (v3 + 1)) h
theorem k_MD_isClean_23 {Z : jZ} {E : jE} (C : jC Z E prog_14_method_35_code 4 "OutOrderModel" 2 45) (hr : (jZh Z).sig.returnType = (some .boolean)) (hE : E.2.2.2 = jLM)  (h0 : Nat) (v1 : Int32) (v2 : Int32) (v3 : Int32) (I : jM) (g_h0 : jOB E 11 h0) {K : Int32 → jM → Prop} {X15 : Int32 × Int32 → Prop} (hX15 : ∀ s : Int32 × Int32, X15 s → jJ Z E 4 (jQi Z E K) 15 [(0, .ref (E.2.2.1 h0)), (1, .int s.1), (2, .int s.2)] [] I) (h : MD_isClean_23 h0 v1 v2 v3 I K X15) : jJ Z E 4 (jQi Z E K) 23 [(0, .ref (E.2.2.1 h0)), (1, .int v1), (2, .int v2), (3, .int v3)] [] I := by
  unfold MD_isClean_23 at h
  exact h (fun s => jJ Z E 4 (jQi Z E K) 23 [(0, .ref (E.2.2.1 h0)), (1, .int s.1), (2, .int s.2.1), (3, .int s.2.2)] [] I) (fun s hs => kb_MD_isClean_23 C hr hE h0 s.1 s.2.1 s.2.2 I g_h0 hX15 (fun s2 h2 => h2) hs)
def MD_isClean_15b (h0 : Nat) (v1 : Int32) (v2 : Int32) (I : jM) (K : Int32 → jM → Prop) (X15 : Int32 × Int32 → Prop) : Prop :=
  ((v2 = 0 → ((¬ v1 = 0 → K (0 : Int32) I) ∧ (v1 = 0 → K (1 : Int32) I))) ∧ (¬ v2 = 0 → MD_isClean_23 h0 v1 (0 : Int32) (0 : Int32) I K X15))
def MD_isClean_15 (h0 : Nat) (v1 : Int32) (v2 : Int32) (I : jM) (K : Int32 → jM → Prop) : Prop :=
  lp (fun (X15 : Int32 × Int32 → Prop) (s : Int32 × Int32) => MD_isClean_15b h0 s.1 s.2 I K X15) (v1, v2)
set_option maxRecDepth 100000 in
set_option maxHeartbeats 4000000 in
theorem kb_MD_isClean_15 {Z : jZ} {E : jE} (C : jC Z E prog_14_method_35_code 4 "OutOrderModel" 2 45) (hr : (jZh Z).sig.returnType = (some .boolean)) (hE : E.2.2.2 = jLM)  (h0 : Nat) (v1 : Int32) (v2 : Int32) (I : jM) (g_h0 : jOB E 11 h0) {K : Int32 → jM → Prop} {X15 : Int32 × Int32 → Prop} (hX15 : ∀ s : Int32 × Int32, X15 s → jJ Z E 4 (jQi Z E K) 15 [(0, .ref (E.2.2.1 h0)), (1, .int s.1), (2, .int s.2)] [] I) (h : MD_isClean_15b h0 v1 v2 I K X15) : jJ Z E 4 (jQi Z E K) 15 [(0, .ref (E.2.2.1 h0)), (1, .int v1), (2, .int v2)] [] I := by
  unfold MD_isClean_15b at h
  refine j_iload_n C d_MD_isClean_15 rfl 2 rfl ?_
  refine j_if_eq C d_MD_isClean_16 (tgt := 77) (by decide) (fun c16 => ?_) (fun c16 => ?_)
  · have h := h.1 c16
    refine j_iload_n C d_MD_isClean_77 rfl 1 rfl ?_
    refine j_if_ne C d_MD_isClean_78 (tgt := 85) (by decide) (fun c78 => ?_) (fun c78 => ?_)
    · have h := h.1 c78
      refine j_iconst C d_MD_isClean_85 ic_0 ?_
      exact j_zret C hr (by decide) d_MD_isClean_86 h
    · have h := h.2 c78
      refine j_iconst C d_MD_isClean_81 ic_1 ?_
      refine j_goto C d_MD_isClean_82 (tgt := 86) (by decide) ?_
      exact j_zret C hr (by decide) d_MD_isClean_86 h
  · have h := h.2 c16
    refine j_iconst C d_MD_isClean_19 ic_0 ?_
    refine j_istore_n C d_MD_isClean_20 rfl (by decide) (lv' := [(2, .int (0 : Int32)), (0, .ref (E.2.2.1 h0)), (1, .int v1)]) rfl ?_
    refine j_iconst C d_MD_isClean_21 ic_0 ?_
    refine j_istore_n C d_MD_isClean_22 rfl (by decide) (lv' := [(3, .int (0 : Int32)), (2, .int (0 : Int32)), (0, .ref (E.2.2.1 h0)), (1, .int v1)]) rfl ?_
    refine j_lv [2, 3, 1, 0] rfl ?_
    exact k_MD_isClean_23 C hr hE h0 v1 (0 : Int32) (0 : Int32) I g_h0 hX15 h
theorem k_MD_isClean_15 {Z : jZ} {E : jE} (C : jC Z E prog_14_method_35_code 4 "OutOrderModel" 2 45) (hr : (jZh Z).sig.returnType = (some .boolean)) (hE : E.2.2.2 = jLM)  (h0 : Nat) (v1 : Int32) (v2 : Int32) (I : jM) (g_h0 : jOB E 11 h0) {K : Int32 → jM → Prop} (h : MD_isClean_15 h0 v1 v2 I K) : jJ Z E 4 (jQi Z E K) 15 [(0, .ref (E.2.2.1 h0)), (1, .int v1), (2, .int v2)] [] I := by
  unfold MD_isClean_15 at h
  exact h (fun s => jJ Z E 4 (jQi Z E K) 15 [(0, .ref (E.2.2.1 h0)), (1, .int s.1), (2, .int s.2)] [] I) (fun s hs => kb_MD_isClean_15 C hr hE h0 s.1 s.2 I g_h0 (fun s2 h2 => h2) hs)
/-- OutOrderModel.isClean()Z -/
def MD_isClean (h0 : Nat) (I : jM) (K : Int32 → jM → Prop) : Prop :=
  MD_beginNet h0 I (fun I_2 => (∀ v1_3 : Int32, v1_3 = (((1 : Int32) <<< ((I_2 h0 0) &&& 31)) - (1 : Int32)) → MD_isClean_15 h0 v1_3 (1 : Int32) I_2 K))
set_option maxRecDepth 100000 in
set_option maxHeartbeats 4000000 in
theorem s_MD_isClean {l : Launch} {E : jE} (ok : jOK E) (hE : E.2.2.2 = jLM) {h0 : Nat} (g_h0 : jOB E 11 h0) {I : jM} {K : Int32 → jM → Prop} (h : MD_isClean h0 I K) : jSi l E ⟨"OutOrderModel", "isClean", "()Z"⟩ prog_14_method_35_code 4 (some .boolean) 2 45 [.ref (E.2.2.1 h0)] I K := by
  refine jS_ofF (own := "OutOrderModel") (by decide +kernel) rfl ok (Nat.le_of_ble_eq_true rfl) (fun Z _ C hr => ?_)
  show jJ Z E 4 (jQi Z E K) 0 [(0, .ref (E.2.2.1 h0))] [] I
  unfold MD_isClean at h
  refine j_aload_n C d_MD_isClean_0 rfl 0 rfl ?_
  refine j_callVv (As := []) C jcl_MD cw_MD_100 w_821 ws_25 g_h0 rfl rfl (by decide) (by decide) (Nat.le_of_ble_eq_true rfl) d_MD_isClean_1 (s_MD_beginNet C.ok hE g_h0 h) (fun I_2 h => ?_)
  refine j_iconst C d_MD_isClean_4 ic_1 ?_
  refine j_aload_n C d_MD_isClean_5 rfl 0 rfl ?_
  refine fg_MD_7 C g_h0 d_MD_isClean_6 ?_
  refine j_ishl C d_MD_isClean_9 ?_
  refine j_iconst C d_MD_isClean_10 ic_1 ?_
  refine j_isub C d_MD_isClean_11 ?_
  refine j_topi (fun v1_3 ev1_3 => ?_)
  have h := h v1_3 ev1_3
  refine j_istore_n C d_MD_isClean_12 rfl (by decide) (lv' := [(1, .int v1_3), (0, .ref (E.2.2.1 h0))]) rfl ?_
  refine j_iconst C d_MD_isClean_13 ic_1 ?_
  refine j_istore_n C d_MD_isClean_14 rfl (by decide) (lv' := [(2, .int (1 : Int32)), (1, .int v1_3), (0, .ref (E.2.2.1 h0))]) rfl ?_
  refine j_lv [2, 1, 0] rfl ?_
  exact k_MD_isClean_15 C hr hE h0 v1_3 (1 : Int32) I_2 g_h0 h
theorem d_MD_least_0 : decode prog_14_method_38_code 0 = .ok (.iload_n 1, 1) := by decide +kernel
theorem d_MD_least_1 : decode prog_14_method_38_code 1 = .ok (.iconst 0, 1) := by decide +kernel
theorem d_MD_least_2 : decode prog_14_method_38_code 2 = .ok (.iconst 1, 1) := by decide +kernel
theorem d_MD_least_3 : decode prog_14_method_38_code 3 = .ok (.invokestatic 75, 3) := by decide +kernel
theorem d_MD_least_6 : decode prog_14_method_38_code 6 = .ok (.ifCond .ne 10, 3) := by decide +kernel
theorem d_MD_least_9 : decode prog_14_method_38_code 9 = .ok (.aload_n 0, 1) := by decide +kernel
theorem d_MD_least_10 : decode prog_14_method_38_code 10 = .ok (.bipush (-2), 2) := by decide +kernel
theorem d_MD_least_12 : decode prog_14_method_38_code 12 = .ok (.invokevirtual 79, 3) := by decide +kernel
theorem d_MD_least_15 : decode prog_14_method_38_code 15 = .ok (.ireturn, 1) := by decide +kernel
theorem d_MD_least_16 : decode prog_14_method_38_code 16 = .ok (.aload_n 0, 1) := by decide +kernel
theorem d_MD_least_17 : decode prog_14_method_38_code 17 = .ok (.getfield 7, 3) := by decide +kernel
theorem d_MD_least_20 : decode prog_14_method_38_code 20 = .ok (.bipush 12, 2) := by decide +kernel
theorem d_MD_least_22 : decode prog_14_method_38_code 22 = .ok (.if_icmp .le 10, 3) := by decide +kernel
theorem d_MD_least_25 : decode prog_14_method_38_code 25 = .ok (.aload_n 0, 1) := by decide +kernel
theorem d_MD_least_26 : decode prog_14_method_38_code 26 = .ok (.bipush (-6), 2) := by decide +kernel
theorem d_MD_least_28 : decode prog_14_method_38_code 28 = .ok (.invokevirtual 79, 3) := by decide +kernel
theorem d_MD_least_31 : decode prog_14_method_38_code 31 = .ok (.ireturn, 1) := by decide +kernel
theorem d_MD_least_32 : decode prog_14_method_38_code 32 = .ok (.aload_n 0, 1) := by decide +kernel
theorem d_MD_least_33 : decode prog_14_method_38_code 33 = .ok (.iload_n 1, 1) := by decide +kernel
theorem d_MD_least_34 : decode prog_14_method_38_code 34 = .ok (.ifCond .ne 7, 3) := by decide +kernel
theorem d_MD_least_37 : decode prog_14_method_38_code 37 = .ok (.iconst 1, 1) := by decide +kernel
theorem d_MD_least_38 : decode prog_14_method_38_code 38 = .ok (.goto 4, 3) := by decide +kernel
theorem d_MD_least_41 : decode prog_14_method_38_code 41 = .ok (.iconst 0, 1) := by decide +kernel
theorem d_MD_least_42 : decode prog_14_method_38_code 42 = .ok (.invokevirtual 125, 3) := by decide +kernel
theorem d_MD_least_45 : decode prog_14_method_38_code 45 = .ok (.aload_n 0, 1) := by decide +kernel
theorem d_MD_least_46 : decode prog_14_method_38_code 46 = .ok (.getfield 45, 3) := by decide +kernel
theorem d_MD_least_49 : decode prog_14_method_38_code 49 = .ok (.iconst 0, 1) := by decide +kernel
theorem d_MD_least_50 : decode prog_14_method_38_code 50 = .ok (.iaload, 1) := by decide +kernel
theorem d_MD_least_51 : decode prog_14_method_38_code 51 = .ok (.ireturn, 1) := by decide +kernel
def MD_least_42 (h0 : Nat) (r0 : Nat) (s1 : Int32) (I : jM) (K : Int32 → jM → Prop) : Prop :=
  MD_findLeast r0 s1 I (fun I_2 => (vp_in (0 : Int32) 4096 ∧ K (I_2 (jr h0 12) (0 : Int32).toNatClampNeg) I_2))
set_option maxRecDepth 100000 in
set_option maxHeartbeats 4000000 in
theorem k_MD_least_42 {Z : jZ} {E : jE} (C : jC Z E prog_14_method_38_code 2 "OutOrderModel" 3 79) (hr : (jZh Z).sig.returnType = (some .int)) (hE : E.2.2.2 = jLM)  (h0 : Nat) (r0 : Nat) (s1 : Int32) (I : jM) (g_h0 : jOB E 11 h0) (g_r0 : jOB E 11 r0) {K : Int32 → jM → Prop} (h : MD_least_42 h0 r0 s1 I K) : jJ Z E 2 (jQi Z E K) 42 [(0, .ref (E.2.2.1 h0))] [.int s1, .ref (E.2.2.1 r0)] I := by
  unfold MD_least_42 at h
  refine j_callVv (As := [.int s1]) C jcl_MD cw_MD_125 w_881 ws_33 g_r0 rfl rfl (by decide) (by decide) (Nat.le_of_ble_eq_true rfl) d_MD_least_42 (s_MD_findLeast C.ok hE g_r0 h) (fun I_2 h => ?_)
  refine j_aload_n C d_MD_least_45 rfl 0 rfl ?_
  refine fg_MD_45 C g_h0 d_MD_least_46 ?_
  refine j_iconst C d_MD_least_49 ic_0 ?_
  obtain ⟨hi, h⟩ := h
  refine j_iaload C (sh_MD_12 hE g_h0) hi d_MD_least_50 ?_
  exact j_iret C hr d_MD_least_51 h
/-- OutOrderModel.least(I)I -/
def MD_least (h0 : Nat) (v1 : Int32) (I : jM) (K : Int32 → jM → Prop) : Prop :=
  MD_in v1 (0 : Int32) (1 : Int32) I (fun r_1 => ((¬ r_1 = 0 → (((I h0 0) ≤ (12 : Int32) → ((¬ v1 = 0 → MD_least_42 h0 h0 (0 : Int32) I K) ∧ (v1 = 0 → MD_least_42 h0 h0 (1 : Int32) I K))) ∧ (¬ (I h0 0) ≤ (12 : Int32) → MD_refuse h0 (-6 : Int32) I (fun r_2 I_3 => K r_2 I_3)))) ∧ (r_1 = 0 → MD_refuse h0 (-2 : Int32) I (fun r_4 I_5 => K r_4 I_5))))
set_option maxRecDepth 100000 in
set_option maxHeartbeats 4000000 in
theorem s_MD_least {l : Launch} {E : jE} (ok : jOK E) (hE : E.2.2.2 = jLM) {h0 : Nat} {v1 : Int32} (g_h0 : jOB E 11 h0) {I : jM} {K : Int32 → jM → Prop} (h : MD_least h0 v1 I K) : jSi l E ⟨"OutOrderModel", "least", "(I)I"⟩ prog_14_method_38_code 2 (some .int) 3 79 [.ref (E.2.2.1 h0), .int v1] I K := by
  refine jS_ofF (own := "OutOrderModel") (by decide +kernel) rfl ok (Nat.le_of_ble_eq_true rfl) (fun Z _ C hr => ?_)
  show jJ Z E 2 (jQi Z E K) 0 [(0, .ref (E.2.2.1 h0)), (1, .int v1)] [] I
  unfold MD_least at h
  refine j_iload_n C d_MD_least_0 rfl 1 rfl ?_
  refine j_iconst C d_MD_least_1 ic_0 ?_
  refine j_iconst C d_MD_least_2 ic_1 ?_
  refine j_callSi (As := [.int v1, .int (0 : Int32), .int (1 : Int32)]) C cw_MD_75 w_832 rfl rfl (by decide) (by decide) (Nat.le_of_ble_eq_true rfl) d_MD_least_3 (s_MD_in C.ok  h) (fun r_1 I2 h => ?_)
  obtain ⟨rfl, h⟩ := h
  refine j_if_ne C d_MD_least_6 (tgt := 16) (by decide) (fun c6 => ?_) (fun c6 => ?_)
  · have h := h.1 c6
    refine j_aload_n C d_MD_least_16 rfl 0 rfl ?_
    refine fg_MD_7 C g_h0 d_MD_least_17 ?_
    refine j_bipush C d_MD_least_20 ib_12 ?_
    refine j_icmp_le C d_MD_least_22 (tgt := 32) (by decide) (fun c22 => ?_) (fun c22 => ?_)
    · have h := h.1 c22
      refine j_aload_n C d_MD_least_32 rfl 0 rfl ?_
      refine j_iload_n C d_MD_least_33 rfl 1 rfl ?_
      refine j_if_ne C d_MD_least_34 (tgt := 41) (by decide) (fun c34 => ?_) (fun c34 => ?_)
      · have h := h.1 c34
        refine j_iconst C d_MD_least_41 ic_0 ?_
        refine j_lv [0] rfl ?_
        exact k_MD_least_42 C hr hE h0 h0 (0 : Int32) I g_h0 g_h0 h
      · have h := h.2 c34
        refine j_iconst C d_MD_least_37 ic_1 ?_
        refine j_goto C d_MD_least_38 (tgt := 42) (by decide) ?_
        refine j_lv [0] rfl ?_
        exact k_MD_least_42 C hr hE h0 h0 (1 : Int32) I g_h0 g_h0 h
    · have h := h.2 c22
      refine j_aload_n C d_MD_least_25 rfl 0 rfl ?_
      refine j_bipush C d_MD_least_26 ib_m6 ?_
      refine j_callVi (As := [.int (-6 : Int32)]) C jcl_MD cw_MD_79 w_809 ws_23 g_h0 rfl rfl (by decide) (by decide) (Nat.le_of_ble_eq_true rfl) d_MD_least_28 (s_MD_refuse C.ok hE g_h0 h) (fun r_2 I_3 h => ?_)
      exact j_iret C hr d_MD_least_31 h
  · have h := h.2 c6
    refine j_aload_n C d_MD_least_9 rfl 0 rfl ?_
    refine j_bipush C d_MD_least_10 ib_m2 ?_
    refine j_callVi (As := [.int (-2 : Int32)]) C jcl_MD cw_MD_79 w_809 ws_23 g_h0 rfl rfl (by decide) (by decide) (Nat.le_of_ble_eq_true rfl) d_MD_least_12 (s_MD_refuse C.ok hE g_h0 h) (fun r_4 I_5 h => ?_)
    exact j_iret C hr d_MD_least_15 h
theorem d_MD_mayBeDone_0 : decode prog_14_method_61_code 0 = .ok (.aload_n 0, 1) := by decide +kernel
theorem d_MD_mayBeDone_1 : decode prog_14_method_61_code 1 = .ok (.getfield 72, 3) := by decide +kernel
theorem d_MD_mayBeDone_4 : decode prog_14_method_61_code 4 = .ok (.iload_n 1, 1) := by decide +kernel
theorem d_MD_mayBeDone_5 : decode prog_14_method_61_code 5 = .ok (.iaload, 1) := by decide +kernel
theorem d_MD_mayBeDone_6 : decode prog_14_method_61_code 6 = .ok (.bipush (-9), 2) := by decide +kernel
theorem d_MD_mayBeDone_8 : decode prog_14_method_61_code 8 = .ok (.if_icmp .ne 7, 3) := by decide +kernel
theorem d_MD_mayBeDone_11 : decode prog_14_method_61_code 11 = .ok (.iconst 1, 1) := by decide +kernel
theorem d_MD_mayBeDone_12 : decode prog_14_method_61_code 12 = .ok (.goto 4, 3) := by decide +kernel
theorem d_MD_mayBeDone_15 : decode prog_14_method_61_code 15 = .ok (.iconst 0, 1) := by decide +kernel
theorem d_MD_mayBeDone_16 : decode prog_14_method_61_code 16 = .ok (.istore_n 3, 1) := by decide +kernel
theorem d_MD_mayBeDone_17 : decode prog_14_method_61_code 17 = .ok (.iconst 0, 1) := by decide +kernel
theorem d_MD_mayBeDone_18 : decode prog_14_method_61_code 18 = .ok (.istore 4, 2) := by decide +kernel
theorem d_MD_mayBeDone_20 : decode prog_14_method_61_code 20 = .ok (.iload 4, 2) := by decide +kernel
theorem d_MD_mayBeDone_22 : decode prog_14_method_61_code 22 = .ok (.aload_n 0, 1) := by decide +kernel
theorem d_MD_mayBeDone_23 : decode prog_14_method_61_code 23 = .ok (.getfield 7, 3) := by decide +kernel
theorem d_MD_mayBeDone_26 : decode prog_14_method_61_code 26 = .ok (.if_icmp .ge 52, 3) := by decide +kernel
theorem d_MD_mayBeDone_29 : decode prog_14_method_61_code 29 = .ok (.iload_n 3, 1) := by decide +kernel
theorem d_MD_mayBeDone_30 : decode prog_14_method_61_code 30 = .ok (.ifCond .eq 48, 3) := by decide +kernel
theorem d_MD_mayBeDone_33 : decode prog_14_method_61_code 33 = .ok (.aload_n 0, 1) := by decide +kernel
theorem d_MD_mayBeDone_34 : decode prog_14_method_61_code 34 = .ok (.iload 4, 2) := by decide +kernel
theorem d_MD_mayBeDone_36 : decode prog_14_method_61_code 36 = .ok (.invokevirtual 151, 3) := by decide +kernel
theorem d_MD_mayBeDone_39 : decode prog_14_method_61_code 39 = .ok (.iload_n 1, 1) := by decide +kernel
theorem d_MD_mayBeDone_40 : decode prog_14_method_61_code 40 = .ok (.if_icmp .ne 26, 3) := by decide +kernel
theorem d_MD_mayBeDone_43 : decode prog_14_method_61_code 43 = .ok (.aload_n 0, 1) := by decide +kernel
theorem d_MD_mayBeDone_44 : decode prog_14_method_61_code 44 = .ok (.getfield 72, 3) := by decide +kernel
theorem d_MD_mayBeDone_47 : decode prog_14_method_61_code 47 = .ok (.iload 4, 2) := by decide +kernel
theorem d_MD_mayBeDone_49 : decode prog_14_method_61_code 49 = .ok (.iaload, 1) := by decide +kernel
theorem d_MD_mayBeDone_50 : decode prog_14_method_61_code 50 = .ok (.bipush (-9), 2) := by decide +kernel
theorem d_MD_mayBeDone_52 : decode prog_14_method_61_code 52 = .ok (.if_icmp .eq 18, 3) := by decide +kernel
theorem d_MD_mayBeDone_55 : decode prog_14_method_61_code 55 = .ok (.aload_n 0, 1) := by decide +kernel
theorem d_MD_mayBeDone_56 : decode prog_14_method_61_code 56 = .ok (.getfield 72, 3) := by decide +kernel
theorem d_MD_mayBeDone_59 : decode prog_14_method_61_code 59 = .ok (.iload 4, 2) := by decide +kernel
theorem d_MD_mayBeDone_61 : decode prog_14_method_61_code 61 = .ok (.iaload, 1) := by decide +kernel
theorem d_MD_mayBeDone_62 : decode prog_14_method_61_code 62 = .ok (.iload_n 2, 1) := by decide +kernel
theorem d_MD_mayBeDone_63 : decode prog_14_method_61_code 63 = .ok (.if_icmp .ge 7, 3) := by decide +kernel
theorem d_MD_mayBeDone_66 : decode prog_14_method_61_code 66 = .ok (.iconst 1, 1) := by decide +kernel
theorem d_MD_mayBeDone_67 : decode prog_14_method_61_code 67 = .ok (.goto 4, 3) := by decide +kernel
theorem d_MD_mayBeDone_70 : decode prog_14_method_61_code 70 = .ok (.iconst 0, 1) := by decide +kernel
theorem d_MD_mayBeDone_71 : decode prog_14_method_61_code 71 = .ok (.istore_n 3, 1) := by decide +kernel
theorem d_MD_mayBeDone_72 : decode prog_14_method_61_code 72 = .ok (.iinc 4 1, 3) := by decide +kernel
theorem d_MD_mayBeDone_75 : decode prog_14_method_61_code 75 = .ok (.goto (-55), 3) := by decide +kernel
theorem d_MD_mayBeDone_78 : decode prog_14_method_61_code 78 = .ok (.iload_n 3, 1) := by decide +kernel
theorem d_MD_mayBeDone_79 : decode prog_14_method_61_code 79 = .ok (.ireturn, 1) := by decide +kernel
def MD_mayBeDone_20b (h0 : Nat) (v1 : Int32) (v2 : Int32) (v3 : Int32) (v4 : Int32) (I : jM) (K : Int32 → Prop) (X20 : Int32 × Int32 → Prop) : Prop :=
  (((I h0 0) ≤ v4 → (narrow .boolean (.int v3) = .int v3 ∧ K v3)) ∧ (¬ (I h0 0) ≤ v4 → ((v3 = 0 → (narrow .boolean (.int v3) = .int v3 ∧ K v3)) ∧ (¬ v3 = 0 → MD_parent h0 v4 I (fun r_1 => ((¬ r_1 = v1 → X20 ((1 : Int32), (v4 + 1))) ∧ (r_1 = v1 → (vp_in v4 24 ∧ (((I (jr h0 23) v4.toNatClampNeg) = (-9 : Int32) → X20 ((0 : Int32), (v4 + 1))) ∧ (¬ (I (jr h0 23) v4.toNatClampNeg) = (-9 : Int32) → (vp_in v4 24 ∧ ((v2 ≤ (I (jr h0 23) v4.toNatClampNeg) → X20 ((0 : Int32), (v4 + 1))) ∧ (¬ v2 ≤ (I (jr h0 23) v4.toNatClampNeg) → X20 ((1 : Int32), (v4 + 1)))))))))))))))
def MD_mayBeDone_20 (h0 : Nat) (v1 : Int32) (v2 : Int32) (v3 : Int32) (v4 : Int32) (I : jM) (K : Int32 → Prop) : Prop :=
  lp (fun (X20 : Int32 × Int32 → Prop) (s : Int32 × Int32) => MD_mayBeDone_20b h0 v1 v2 s.1 s.2 I K X20) (v3, v4)
set_option maxRecDepth 100000 in
set_option maxHeartbeats 4000000 in
theorem kb_MD_mayBeDone_20 {Z : jZ} {E : jE} (C : jC Z E prog_14_method_61_code 5 "OutOrderModel" 1 23) (hr : (jZh Z).sig.returnType = (some .boolean)) (hE : E.2.2.2 = jLM)  (h0 : Nat) (v1 : Int32) (v2 : Int32) (v3 : Int32) (v4 : Int32) (I : jM) (g_h0 : jOB E 11 h0) {K : Int32 → Prop} {X20 : Int32 × Int32 → Prop} (hX20 : ∀ s : Int32 × Int32, X20 s → jJ Z E 5 (jQi Z E (fun r I2 => I = I2 ∧ K r)) 20 [(0, .ref (E.2.2.1 h0)), (1, .int v1), (2, .int v2), (3, .int s.1), (4, .int s.2)] [] I) (h : MD_mayBeDone_20b h0 v1 v2 v3 v4 I K X20) : jJ Z E 5 (jQi Z E (fun r I2 => I = I2 ∧ K r)) 20 [(0, .ref (E.2.2.1 h0)), (1, .int v1), (2, .int v2), (3, .int v3), (4, .int v4)] [] I := by
  unfold MD_mayBeDone_20b at h
  refine j_iload C d_MD_mayBeDone_20 4 rfl ?_
  refine j_aload_n C d_MD_mayBeDone_22 rfl 0 rfl ?_
  refine fg_MD_7 C g_h0 d_MD_mayBeDone_23 ?_
  refine j_icmp_ge C d_MD_mayBeDone_26 (tgt := 78) (by decide) (fun c26 => ?_) (fun c26 => ?_)
  · have h := h.1 c26
    refine j_iload_n C d_MD_mayBeDone_78 rfl 3 rfl ?_
    obtain ⟨hz, h⟩ := h
    exact j_zret C hr hz d_MD_mayBeDone_79 ⟨rfl, h⟩
  · have h := h.2 c26
    refine j_iload_n C d_MD_mayBeDone_29 rfl 3 rfl ?_
    refine j_if_eq C d_MD_mayBeDone_30 (tgt := 78) (by decide) (fun c30 => ?_) (fun c30 => ?_)
    · have h := h.1 c30
      refine j_iload_n C d_MD_mayBeDone_78 rfl 3 rfl ?_
      obtain ⟨hz, h⟩ := h
      exact j_zret C hr hz d_MD_mayBeDone_79 ⟨rfl, h⟩
    · have h := h.2 c30
      refine j_aload_n C d_MD_mayBeDone_33 rfl 0 rfl ?_
      refine j_iload C d_MD_mayBeDone_34 4 rfl ?_
      refine j_callVi (As := [.int v4]) C jcl_MD cw_MD_151 w_922 ws_38 g_h0 rfl rfl (by decide) (by decide) (Nat.le_of_ble_eq_true rfl) d_MD_mayBeDone_36 (s_MD_parent C.ok hE g_h0 h) (fun r_1 I2 h => ?_)
      obtain ⟨rfl, h⟩ := h
      refine j_iload_n C d_MD_mayBeDone_39 rfl 1 rfl ?_
      refine j_icmp_ne C d_MD_mayBeDone_40 (tgt := 66) (by decide) (fun c40 => ?_) (fun c40 => ?_)
      · have h := h.1 c40
        refine j_iconst C d_MD_mayBeDone_66 ic_1 ?_
        refine j_goto C d_MD_mayBeDone_67 (tgt := 71) (by decide) ?_
        refine j_istore_n C d_MD_mayBeDone_71 rfl (by decide) (lv' := [(3, .int (1 : Int32)), (0, .ref (E.2.2.1 h0)), (1, .int v1), (2, .int v2), (4, .int v4)]) rfl ?_
        refine j_iinc C d_MD_mayBeDone_72 4 rfl (v := (v4 + 1)) rfl (by decide) (lv' := [(4, .int (v4 + 1)), (3, .int (1 : Int32)), (0, .ref (E.2.2.1 h0)), (1, .int v1), (2, .int v2)]) rfl ?_
        refine j_goto C d_MD_mayBeDone_75 (tgt := 20) (by decide) ?_
        refine j_lv [2, 3, 4, 1, 0] rfl ?_
        exact hX20 ((1 : Int32), (v4 + 1)) h
      · have h := h.2 c40
        refine j_aload_n C d_MD_mayBeDone_43 rfl 0 rfl ?_
        refine fg_MD_72 C g_h0 d_MD_mayBeDone_44 ?_
        refine j_iload C d_MD_mayBeDone_47 4 rfl ?_
        obtain ⟨hi, h⟩ := h
        refine j_iaload C (sh_MD_23 hE g_h0) hi d_MD_mayBeDone_49 ?_
        refine j_bipush C d_MD_mayBeDone_50 ib_m9 ?_
        refine j_icmp_eq C d_MD_mayBeDone_52 (tgt := 70) (by decide) (fun c52 => ?_) (fun c52 => ?_)
        · have h := h.1 c52
          refine j_iconst C d_MD_mayBeDone_70 ic_0 ?_
          refine j_istore_n C d_MD_mayBeDone_71 rfl (by decide) (lv' := [(3, .int (0 : Int32)), (0, .ref (E.2.2.1 h0)), (1, .int v1), (2, .int v2), (4, .int v4)]) rfl ?_
          refine j_iinc C d_MD_mayBeDone_72 4 rfl (v := (v4 + 1)) rfl (by decide) (lv' := [(4, .int (v4 + 1)), (3, .int (0 : Int32)), (0, .ref (E.2.2.1 h0)), (1, .int v1), (2, .int v2)]) rfl ?_
          refine j_goto C d_MD_mayBeDone_75 (tgt := 20) (by decide) ?_
          refine j_lv [2, 3, 4, 1, 0] rfl ?_
          exact hX20 ((0 : Int32), (v4 + 1)) h
        · have h := h.2 c52
          refine j_aload_n C d_MD_mayBeDone_55 rfl 0 rfl ?_
          refine fg_MD_72 C g_h0 d_MD_mayBeDone_56 ?_
          refine j_iload C d_MD_mayBeDone_59 4 rfl ?_
          obtain ⟨hi, h⟩ := h
          refine j_iaload C (sh_MD_23 hE g_h0) hi d_MD_mayBeDone_61 ?_
          refine j_iload_n C d_MD_mayBeDone_62 rfl 2 rfl ?_
          refine j_icmp_ge C d_MD_mayBeDone_63 (tgt := 70) (by decide) (fun c63 => ?_) (fun c63 => ?_)
          · have h := h.1 c63
            refine j_iconst C d_MD_mayBeDone_70 ic_0 ?_
            refine j_istore_n C d_MD_mayBeDone_71 rfl (by decide) (lv' := [(3, .int (0 : Int32)), (0, .ref (E.2.2.1 h0)), (1, .int v1), (2, .int v2), (4, .int v4)]) rfl ?_
            refine j_iinc C d_MD_mayBeDone_72 4 rfl (v := (v4 + 1)) rfl (by decide) (lv' := [(4, .int (v4 + 1)), (3, .int (0 : Int32)), (0, .ref (E.2.2.1 h0)), (1, .int v1), (2, .int v2)]) rfl ?_
            refine j_goto C d_MD_mayBeDone_75 (tgt := 20) (by decide) ?_
            refine j_lv [2, 3, 4, 1, 0] rfl ?_
            exact hX20 ((0 : Int32), (v4 + 1)) h
          · have h := h.2 c63
            refine j_iconst C d_MD_mayBeDone_66 ic_1 ?_
            refine j_goto C d_MD_mayBeDone_67 (tgt := 71) (by decide) ?_
            refine j_istore_n C d_MD_mayBeDone_71 rfl (by decide) (lv' := [(3, .int (1 : Int32)), (0, .ref (E.2.2.1 h0)), (1, .int v1), (2, .int v2), (4, .int v4)]) rfl ?_
            refine j_iinc C d_MD_mayBeDone_72 4 rfl (v := (v4 + 1)) rfl (by decide) (lv' := [(4, .int (v4 + 1)), (3, .int (1 : Int32)), (0, .ref (E.2.2.1 h0)), (1, .int v1), (2, .int v2)]) rfl ?_
            refine j_goto C d_MD_mayBeDone_75 (tgt := 20) (by decide) ?_
            refine j_lv [2, 3, 4, 1, 0] rfl ?_
            exact hX20 ((1 : Int32), (v4 + 1)) h
theorem k_MD_mayBeDone_20 {Z : jZ} {E : jE} (C : jC Z E prog_14_method_61_code 5 "OutOrderModel" 1 23) (hr : (jZh Z).sig.returnType = (some .boolean)) (hE : E.2.2.2 = jLM)  (h0 : Nat) (v1 : Int32) (v2 : Int32) (v3 : Int32) (v4 : Int32) (I : jM) (g_h0 : jOB E 11 h0) {K : Int32 → Prop} (h : MD_mayBeDone_20 h0 v1 v2 v3 v4 I K) : jJ Z E 5 (jQi Z E (fun r I2 => I = I2 ∧ K r)) 20 [(0, .ref (E.2.2.1 h0)), (1, .int v1), (2, .int v2), (3, .int v3), (4, .int v4)] [] I := by
  unfold MD_mayBeDone_20 at h
  exact h (fun s => jJ Z E 5 (jQi Z E (fun r I2 => I = I2 ∧ K r)) 20 [(0, .ref (E.2.2.1 h0)), (1, .int v1), (2, .int v2), (3, .int s.1), (4, .int s.2)] [] I) (fun s hs => kb_MD_mayBeDone_20 C hr hE h0 v1 v2 s.1 s.2 I g_h0 (fun s2 h2 => h2) hs)
/-- OutOrderModel.mayBeDone(II)Z -/
def MD_mayBeDone (h0 : Nat) (v1 : Int32) (v2 : Int32) (I : jM) (K : Int32 → Prop) : Prop :=
  (vp_in v1 24 ∧ ((¬ (I (jr h0 23) v1.toNatClampNeg) = (-9 : Int32) → MD_mayBeDone_20 h0 v1 v2 (0 : Int32) (0 : Int32) I K) ∧ ((I (jr h0 23) v1.toNatClampNeg) = (-9 : Int32) → MD_mayBeDone_20 h0 v1 v2 (1 : Int32) (0 : Int32) I K)))
set_option maxRecDepth 100000 in
set_option maxHeartbeats 4000000 in
theorem s_MD_mayBeDone {l : Launch} {E : jE} (ok : jOK E) (hE : E.2.2.2 = jLM) {h0 : Nat} {v1 : Int32} {v2 : Int32} (g_h0 : jOB E 11 h0) {I : jM} {K : Int32 → Prop} (h : MD_mayBeDone h0 v1 v2 I K) : jSi l E ⟨"OutOrderModel", "mayBeDone", "(II)Z"⟩ prog_14_method_61_code 5 (some .boolean) 1 23 [.ref (E.2.2.1 h0), .int v1, .int v2] I (fun r I2 => I = I2 ∧ K r) := by
  refine jS_ofF (own := "OutOrderModel") (by decide +kernel) rfl ok (Nat.le_of_ble_eq_true rfl) (fun Z _ C hr => ?_)
  show jJ Z E 5 (jQi Z E (fun r I2 => I = I2 ∧ K r)) 0 [(0, .ref (E.2.2.1 h0)), (1, .int v1), (2, .int v2)] [] I
  unfold MD_mayBeDone at h
  refine j_aload_n C d_MD_mayBeDone_0 rfl 0 rfl ?_
  refine fg_MD_72 C g_h0 d_MD_mayBeDone_1 ?_
  refine j_iload_n C d_MD_mayBeDone_4 rfl 1 rfl ?_
  obtain ⟨hi, h⟩ := h
  refine j_iaload C (sh_MD_23 hE g_h0) hi d_MD_mayBeDone_5 ?_
  refine j_bipush C d_MD_mayBeDone_6 ib_m9 ?_
  refine j_icmp_ne C d_MD_mayBeDone_8 (tgt := 15) (by decide) (fun c8 => ?_) (fun c8 => ?_)
  · have h := h.1 c8
    refine j_iconst C d_MD_mayBeDone_15 ic_0 ?_
    refine j_istore_n C d_MD_mayBeDone_16 rfl (by decide) (lv' := [(3, .int (0 : Int32)), (0, .ref (E.2.2.1 h0)), (1, .int v1), (2, .int v2)]) rfl ?_
    refine j_iconst C d_MD_mayBeDone_17 ic_0 ?_
    refine j_istore C d_MD_mayBeDone_18 (by decide) (lv' := [(4, .int (0 : Int32)), (3, .int (0 : Int32)), (0, .ref (E.2.2.1 h0)), (1, .int v1), (2, .int v2)]) rfl ?_
    refine j_lv [2, 3, 4, 1, 0] rfl ?_
    exact k_MD_mayBeDone_20 C hr hE h0 v1 v2 (0 : Int32) (0 : Int32) I g_h0 h
  · have h := h.2 c8
    refine j_iconst C d_MD_mayBeDone_11 ic_1 ?_
    refine j_goto C d_MD_mayBeDone_12 (tgt := 16) (by decide) ?_
    refine j_istore_n C d_MD_mayBeDone_16 rfl (by decide) (lv' := [(3, .int (1 : Int32)), (0, .ref (E.2.2.1 h0)), (1, .int v1), (2, .int v2)]) rfl ?_
    refine j_iconst C d_MD_mayBeDone_17 ic_0 ?_
    refine j_istore C d_MD_mayBeDone_18 (by decide) (lv' := [(4, .int (0 : Int32)), (3, .int (1 : Int32)), (0, .ref (E.2.2.1 h0)), (1, .int v1), (2, .int v2)]) rfl ?_
    refine j_lv [2, 3, 4, 1, 0] rfl ?_
    exact k_MD_mayBeDone_20 C hr hE h0 v1 v2 (1 : Int32) (0 : Int32) I g_h0 h
theorem d_MD_notWorked_0 : decode prog_14_method_47_code 0 = .ok (.aload_n 0, 1) := by decide +kernel
theorem d_MD_notWorked_1 : decode prog_14_method_47_code 1 = .ok (.iconst 0, 1) := by decide +kernel
theorem d_MD_notWorked_2 : decode prog_14_method_47_code 2 = .ok (.putfield 176, 3) := by decide +kernel
theorem d_MD_notWorked_5 : decode prog_14_method_47_code 5 = .ok (.aload_n 0, 1) := by decide +kernel
theorem d_MD_notWorked_6 : decode prog_14_method_47_code 6 = .ok (.bipush (-9), 2) := by decide +kernel
theorem d_MD_notWorked_8 : decode prog_14_method_47_code 8 = .ok (.putfield 60, 3) := by decide +kernel
theorem d_MD_notWorked_11 : decode prog_14_method_47_code 11 = .ok (.return_, 1) := by decide +kernel
/-- OutOrderModel.notWorked()V -/
def MD_notWorked (h0 : Nat) (I : jM) (K : jM → Prop) : Prop :=
  (∀ I_1 : jM, I_1 = jwr I h0 18 (0 : Int32) → (∀ I_2 : jM, I_2 = jwr I_1 h0 19 (-9 : Int32) → K I_2))
set_option maxRecDepth 100000 in
set_option maxHeartbeats 4000000 in
theorem s_MD_notWorked {l : Launch} {E : jE} (ok : jOK E)  {h0 : Nat} (g_h0 : jOB E 11 h0) {I : jM} {K : jM → Prop} (h : MD_notWorked h0 I K) : jSv l E ⟨"OutOrderModel", "notWorked", "()V"⟩ prog_14_method_47_code 1 none 0 0 [.ref (E.2.2.1 h0)] I K := by
  refine jS_ofF (own := "OutOrderModel") (by decide +kernel) rfl ok (Nat.le_of_ble_eq_true rfl) (fun Z _ C hr => ?_)
  show jJ Z E 1 (jQv Z E K) 0 [(0, .ref (E.2.2.1 h0))] [] I
  unfold MD_notWorked at h
  refine j_aload_n C d_MD_notWorked_0 rfl 0 rfl ?_
  refine j_iconst C d_MD_notWorked_1 ic_0 ?_
  refine fp_MD_176 C g_h0 d_MD_notWorked_2 ?_
  have h := h _ rfl
  generalize eI_1 : (jwr I h0 18 (0 : Int32) : jM) = I_1 at h ⊢
  refine j_aload_n C d_MD_notWorked_5 rfl 0 rfl ?_
  refine j_bipush C d_MD_notWorked_6 ib_m9 ?_
  refine fp_MD_60 C g_h0 d_MD_notWorked_8 ?_
  have h := h _ rfl
  generalize eI_2 : (jwr I_1 h0 19 (-9 : Int32) : jM) = I_2 at h ⊢
  exact j_vret C hr d_MD_notWorked_11 h
theorem d_MD_number_0 : decode prog_14_method_10_code 0 = .ok (.aload_n 0, 1) := by decide +kernel
theorem d_MD_number_1 : decode prog_14_method_10_code 1 = .ok (.iload_n 1, 1) := by decide +kernel
theorem d_MD_number_2 : decode prog_14_method_10_code 2 = .ok (.invokevirtual 90, 3) := by decide +kernel
theorem d_MD_number_5 : decode prog_14_method_10_code 5 = .ok (.ifCond .eq 25, 3) := by decide +kernel
theorem d_MD_number_8 : decode prog_14_method_10_code 8 = .ok (.aload_n 0, 1) := by decide +kernel
theorem d_MD_number_9 : decode prog_14_method_10_code 9 = .ok (.iload_n 2, 1) := by decide +kernel
theorem d_MD_number_10 : decode prog_14_method_10_code 10 = .ok (.invokevirtual 90, 3) := by decide +kernel
theorem d_MD_number_13 : decode prog_14_method_10_code 13 = .ok (.ifCond .eq 17, 3) := by decide +kernel
theorem d_MD_number_16 : decode prog_14_method_10_code 16 = .ok (.aload_n 0, 1) := by decide +kernel
theorem d_MD_number_17 : decode prog_14_method_10_code 17 = .ok (.getfield 16, 3) := by decide +kernel
theorem d_MD_number_20 : decode prog_14_method_10_code 20 = .ok (.bipush 24, 2) := by decide +kernel
theorem d_MD_number_22 : decode prog_14_method_10_code 22 = .ok (.iload_n 1, 1) := by decide +kernel
theorem d_MD_number_23 : decode prog_14_method_10_code 23 = .ok (.imul, 1) := by decide +kernel
theorem d_MD_number_24 : decode prog_14_method_10_code 24 = .ok (.iload_n 2, 1) := by decide +kernel
theorem d_MD_number_25 : decode prog_14_method_10_code 25 = .ok (.iadd, 1) := by decide +kernel
theorem d_MD_number_26 : decode prog_14_method_10_code 26 = .ok (.iaload, 1) := by decide +kernel
theorem d_MD_number_27 : decode prog_14_method_10_code 27 = .ok (.goto 8, 3) := by decide +kernel
theorem d_MD_number_30 : decode prog_14_method_10_code 30 = .ok (.aload_n 0, 1) := by decide +kernel
theorem d_MD_number_31 : decode prog_14_method_10_code 31 = .ok (.iconst (-1), 1) := by decide +kernel
theorem d_MD_number_32 : decode prog_14_method_10_code 32 = .ok (.invokevirtual 79, 3) := by decide +kernel
theorem d_MD_number_35 : decode prog_14_method_10_code 35 = .ok (.ireturn, 1) := by decide +kernel
def MD_number_30 (h0 : Nat) (I : jM) (K : Int32 → jM → Prop) : Prop :=
  MD_refuse h0 (-1 : Int32) I (fun r_1 I_2 => K r_1 I_2)
set_option maxRecDepth 100000 in
set_option maxHeartbeats 4000000 in
theorem k_MD_number_30 {Z : jZ} {E : jE} (C : jC Z E prog_14_method_10_code 3 "OutOrderModel" 2 43) (hr : (jZh Z).sig.returnType = (some .int)) (hE : E.2.2.2 = jLM)  (h0 : Nat) (I : jM) (g_h0 : jOB E 11 h0) {K : Int32 → jM → Prop} (h : MD_number_30 h0 I K) : jJ Z E 3 (jQi Z E K) 30 [(0, .ref (E.2.2.1 h0))] [] I := by
  unfold MD_number_30 at h
  refine j_aload_n C d_MD_number_30 rfl 0 rfl ?_
  refine j_iconst C d_MD_number_31 ic_m1 ?_
  refine j_callVi (As := [.int (-1 : Int32)]) C jcl_MD cw_MD_79 w_809 ws_23 g_h0 rfl rfl (by decide) (by decide) (Nat.le_of_ble_eq_true rfl) d_MD_number_32 (s_MD_refuse C.ok hE g_h0 h) (fun r_1 I_2 h => ?_)
  exact j_iret C hr d_MD_number_35 h
/-- OutOrderModel.number(II)I -/
def MD_number (h0 : Nat) (v1 : Int32) (v2 : Int32) (I : jM) (K : Int32 → jM → Prop) : Prop :=
  MD_isUnknown h0 v1 I (fun r_1 => ((r_1 = 0 → MD_number_30 h0 I K) ∧ (¬ r_1 = 0 → MD_isUnknown h0 v2 I (fun r_2 => ((r_2 = 0 → MD_number_30 h0 I K) ∧ (¬ r_2 = 0 → (vp_in (((24 : Int32) * v1) + v2) 576 ∧ K (I (jr h0 2) (((24 : Int32) * v1) + v2).toNatClampNeg) I)))))))
set_option maxRecDepth 100000 in
set_option maxHeartbeats 4000000 in
theorem s_MD_number {l : Launch} {E : jE} (ok : jOK E) (hE : E.2.2.2 = jLM) {h0 : Nat} {v1 : Int32} {v2 : Int32} (g_h0 : jOB E 11 h0) {I : jM} {K : Int32 → jM → Prop} (h : MD_number h0 v1 v2 I K) : jSi l E ⟨"OutOrderModel", "number", "(II)I"⟩ prog_14_method_10_code 3 (some .int) 2 43 [.ref (E.2.2.1 h0), .int v1, .int v2] I K := by
  refine jS_ofF (own := "OutOrderModel") (by decide +kernel) rfl ok (Nat.le_of_ble_eq_true rfl) (fun Z _ C hr => ?_)
  show jJ Z E 3 (jQi Z E K) 0 [(0, .ref (E.2.2.1 h0)), (1, .int v1), (2, .int v2)] [] I
  unfold MD_number at h
  refine j_aload_n C d_MD_number_0 rfl 0 rfl ?_
  refine j_iload_n C d_MD_number_1 rfl 1 rfl ?_
  refine j_callVi (As := [.int v1]) C jcl_MD cw_MD_90 w_829 ws_26 g_h0 rfl rfl (by decide) (by decide) (Nat.le_of_ble_eq_true rfl) d_MD_number_2 (s_MD_isUnknown C.ok g_h0 h) (fun r_1 I2 h => ?_)
  obtain ⟨rfl, h⟩ := h
  refine j_if_eq C d_MD_number_5 (tgt := 30) (by decide) (fun c5 => ?_) (fun c5 => ?_)
  · have h := h.1 c5
    refine j_lv [0] rfl ?_
    exact k_MD_number_30 C hr hE h0 I g_h0 h
  · have h := h.2 c5
    refine j_aload_n C d_MD_number_8 rfl 0 rfl ?_
    refine j_iload_n C d_MD_number_9 rfl 2 rfl ?_
    refine j_callVi (As := [.int v2]) C jcl_MD cw_MD_90 w_829 ws_26 g_h0 rfl rfl (by decide) (by decide) (Nat.le_of_ble_eq_true rfl) d_MD_number_10 (s_MD_isUnknown C.ok g_h0 h) (fun r_2 I2 h => ?_)
    obtain ⟨rfl, h⟩ := h
    refine j_if_eq C d_MD_number_13 (tgt := 30) (by decide) (fun c13 => ?_) (fun c13 => ?_)
    · have h := h.1 c13
      refine j_lv [0] rfl ?_
      exact k_MD_number_30 C hr hE h0 I g_h0 h
    · have h := h.2 c13
      refine j_aload_n C d_MD_number_16 rfl 0 rfl ?_
      refine fg_MD_16 C g_h0 d_MD_number_17 ?_
      refine j_bipush C d_MD_number_20 ib_24 ?_
      refine j_iload_n C d_MD_number_22 rfl 1 rfl ?_
      refine j_imul C d_MD_number_23 ?_
      refine j_iload_n C d_MD_number_24 rfl 2 rfl ?_
      refine j_iadd C d_MD_number_25 ?_
      obtain ⟨hi, h⟩ := h
      refine j_iaload C (sh_MD_2 hE g_h0) hi d_MD_number_26 ?_
      refine j_goto C d_MD_number_27 (tgt := 35) (by decide) ?_
      exact j_iret C hr d_MD_number_35 h
theorem d_MD_placeOf_0 : decode prog_14_method_51_code 0 = .ok (.iconst 0, 1) := by decide +kernel
theorem d_MD_placeOf_1 : decode prog_14_method_51_code 1 = .ok (.istore_n 2, 1) := by decide +kernel
theorem d_MD_placeOf_2 : decode prog_14_method_51_code 2 = .ok (.aload_n 0, 1) := by decide +kernel
theorem d_MD_placeOf_3 : decode prog_14_method_51_code 3 = .ok (.getfield 24, 3) := by decide +kernel
theorem d_MD_placeOf_6 : decode prog_14_method_51_code 6 = .ok (.iload_n 2, 1) := by decide +kernel
theorem d_MD_placeOf_7 : decode prog_14_method_51_code 7 = .ok (.iaload, 1) := by decide +kernel
theorem d_MD_placeOf_8 : decode prog_14_method_51_code 8 = .ok (.iload_n 1, 1) := by decide +kernel
theorem d_MD_placeOf_9 : decode prog_14_method_51_code 9 = .ok (.if_icmp .eq 9, 3) := by decide +kernel
theorem d_MD_placeOf_12 : decode prog_14_method_51_code 12 = .ok (.iinc 2 1, 3) := by decide +kernel
theorem d_MD_placeOf_15 : decode prog_14_method_51_code 15 = .ok (.goto (-13), 3) := by decide +kernel
theorem d_MD_placeOf_18 : decode prog_14_method_51_code 18 = .ok (.iload_n 2, 1) := by decide +kernel
theorem d_MD_placeOf_19 : decode prog_14_method_51_code 19 = .ok (.ireturn, 1) := by decide +kernel
def MD_placeOf_2b (h0 : Nat) (v1 : Int32) (v2 : Int32) (I : jM) (K : Int32 → Prop) (X2 : Int32 → Prop) : Prop :=
  (vp_in v2 24 ∧ (((I (jr h0 4) v2.toNatClampNeg) = v1 → K v2) ∧ (¬ (I (jr h0 4) v2.toNatClampNeg) = v1 → X2 (v2 + 1))))
def MD_placeOf_2 (h0 : Nat) (v1 : Int32) (v2 : Int32) (I : jM) (K : Int32 → Prop) : Prop :=
  lp (fun (X2 : Int32 → Prop) (s : Int32) => MD_placeOf_2b h0 v1 s I K X2) v2
set_option maxRecDepth 100000 in
set_option maxHeartbeats 4000000 in
theorem kb_MD_placeOf_2 {Z : jZ} {E : jE} (C : jC Z E prog_14_method_51_code 3 "OutOrderModel" 0 0) (hr : (jZh Z).sig.returnType = (some .int)) (hE : E.2.2.2 = jLM)  (h0 : Nat) (v1 : Int32) (v2 : Int32) (I : jM) (g_h0 : jOB E 11 h0) {K : Int32 → Prop} {X2 : Int32 → Prop} (hX2 : ∀ s : Int32, X2 s → jJ Z E 3 (jQi Z E (fun r I2 => I = I2 ∧ K r)) 2 [(0, .ref (E.2.2.1 h0)), (1, .int v1), (2, .int s)] [] I) (h : MD_placeOf_2b h0 v1 v2 I K X2) : jJ Z E 3 (jQi Z E (fun r I2 => I = I2 ∧ K r)) 2 [(0, .ref (E.2.2.1 h0)), (1, .int v1), (2, .int v2)] [] I := by
  unfold MD_placeOf_2b at h
  refine j_aload_n C d_MD_placeOf_2 rfl 0 rfl ?_
  refine fg_MD_24 C g_h0 d_MD_placeOf_3 ?_
  refine j_iload_n C d_MD_placeOf_6 rfl 2 rfl ?_
  obtain ⟨hi, h⟩ := h
  refine j_iaload C (sh_MD_4 hE g_h0) hi d_MD_placeOf_7 ?_
  refine j_iload_n C d_MD_placeOf_8 rfl 1 rfl ?_
  refine j_icmp_eq C d_MD_placeOf_9 (tgt := 18) (by decide) (fun c9 => ?_) (fun c9 => ?_)
  · have h := h.1 c9
    refine j_iload_n C d_MD_placeOf_18 rfl 2 rfl ?_
    exact j_iret C hr d_MD_placeOf_19 ⟨rfl, h⟩
  · have h := h.2 c9
    refine j_iinc C d_MD_placeOf_12 2 rfl (v := (v2 + 1)) rfl (by decide) (lv' := [(2, .int (v2 + 1)), (0, .ref (E.2.2.1 h0)), (1, .int v1)]) rfl ?_
    refine j_goto C d_MD_placeOf_15 (tgt := 2) (by decide) ?_
    refine j_lv [1, 2, 0] rfl ?_
    exact hX2 (v2 + 1) h
theorem k_MD_placeOf_2 {Z : jZ} {E : jE} (C : jC Z E prog_14_method_51_code 3 "OutOrderModel" 0 0) (hr : (jZh Z).sig.returnType = (some .int)) (hE : E.2.2.2 = jLM)  (h0 : Nat) (v1 : Int32) (v2 : Int32) (I : jM) (g_h0 : jOB E 11 h0) {K : Int32 → Prop} (h : MD_placeOf_2 h0 v1 v2 I K) : jJ Z E 3 (jQi Z E (fun r I2 => I = I2 ∧ K r)) 2 [(0, .ref (E.2.2.1 h0)), (1, .int v1), (2, .int v2)] [] I := by
  unfold MD_placeOf_2 at h
  exact h (fun s => jJ Z E 3 (jQi Z E (fun r I2 => I = I2 ∧ K r)) 2 [(0, .ref (E.2.2.1 h0)), (1, .int v1), (2, .int s)] [] I) (fun s hs => kb_MD_placeOf_2 C hr hE h0 v1 s I g_h0 (fun s2 h2 => h2) hs)
/-- OutOrderModel.placeOf(I)I -/
def MD_placeOf (h0 : Nat) (v1 : Int32) (I : jM) (K : Int32 → Prop) : Prop :=
  MD_placeOf_2 h0 v1 (0 : Int32) I K
set_option maxRecDepth 100000 in
set_option maxHeartbeats 4000000 in
theorem s_MD_placeOf {l : Launch} {E : jE} (ok : jOK E) (hE : E.2.2.2 = jLM) {h0 : Nat} {v1 : Int32} (g_h0 : jOB E 11 h0) {I : jM} {K : Int32 → Prop} (h : MD_placeOf h0 v1 I K) : jSi l E ⟨"OutOrderModel", "placeOf", "(I)I"⟩ prog_14_method_51_code 3 (some .int) 0 0 [.ref (E.2.2.1 h0), .int v1] I (fun r I2 => I = I2 ∧ K r) := by
  refine jS_ofF (own := "OutOrderModel") (by decide +kernel) rfl ok (Nat.le_of_ble_eq_true rfl) (fun Z _ C hr => ?_)
  show jJ Z E 3 (jQi Z E (fun r I2 => I = I2 ∧ K r)) 0 [(0, .ref (E.2.2.1 h0)), (1, .int v1)] [] I
  unfold MD_placeOf at h
  refine j_iconst C d_MD_placeOf_0 ic_0 ?_
  refine j_istore_n C d_MD_placeOf_1 rfl (by decide) (lv' := [(2, .int (0 : Int32)), (0, .ref (E.2.2.1 h0)), (1, .int v1)]) rfl ?_
  refine j_lv [1, 2, 0] rfl ?_
  exact k_MD_placeOf_2 C hr hE h0 v1 (0 : Int32) I g_h0 h
theorem d_MD_one_0 : decode prog_14_method_53_code 0 = .ok (.aload_n 0, 1) := by decide +kernel
theorem d_MD_one_1 : decode prog_14_method_53_code 1 = .ok (.iload_n 1, 1) := by decide +kernel
theorem d_MD_one_2 : decode prog_14_method_53_code 2 = .ok (.invokevirtual 90, 3) := by decide +kernel
theorem d_MD_one_5 : decode prog_14_method_53_code 5 = .ok (.ifCond .eq 11, 3) := by decide +kernel
theorem d_MD_one_8 : decode prog_14_method_53_code 8 = .ok (.aload_n 0, 1) := by decide +kernel
theorem d_MD_one_9 : decode prog_14_method_53_code 9 = .ok (.iload_n 2, 1) := by decide +kernel
theorem d_MD_one_10 : decode prog_14_method_53_code 10 = .ok (.invokevirtual 90, 3) := by decide +kernel
theorem d_MD_one_13 : decode prog_14_method_53_code 13 = .ok (.ifCond .ne 9, 3) := by decide +kernel
theorem d_MD_one_16 : decode prog_14_method_53_code 16 = .ok (.aload_n 0, 1) := by decide +kernel
theorem d_MD_one_17 : decode prog_14_method_53_code 17 = .ok (.iconst (-1), 1) := by decide +kernel
theorem d_MD_one_18 : decode prog_14_method_53_code 18 = .ok (.invokevirtual 79, 3) := by decide +kernel
theorem d_MD_one_21 : decode prog_14_method_53_code 21 = .ok (.ireturn, 1) := by decide +kernel
theorem d_MD_one_22 : decode prog_14_method_53_code 22 = .ok (.aload_n 0, 1) := by decide +kernel
theorem d_MD_one_23 : decode prog_14_method_53_code 23 = .ok (.iload_n 2, 1) := by decide +kernel
theorem d_MD_one_24 : decode prog_14_method_53_code 24 = .ok (.invokevirtual 185, 3) := by decide +kernel
theorem d_MD_one_27 : decode prog_14_method_53_code 27 = .ok (.aload_n 0, 1) := by decide +kernel
theorem d_MD_one_28 : decode prog_14_method_53_code 28 = .ok (.getfield 176, 3) := by decide +kernel
theorem d_MD_one_31 : decode prog_14_method_53_code 31 = .ok (.if_icmp .lt 10, 3) := by decide +kernel
theorem d_MD_one_34 : decode prog_14_method_53_code 34 = .ok (.aload_n 0, 1) := by decide +kernel
theorem d_MD_one_35 : decode prog_14_method_53_code 35 = .ok (.bipush (-5), 2) := by decide +kernel
theorem d_MD_one_37 : decode prog_14_method_53_code 37 = .ok (.invokevirtual 79, 3) := by decide +kernel
theorem d_MD_one_40 : decode prog_14_method_53_code 40 = .ok (.ireturn, 1) := by decide +kernel
theorem d_MD_one_41 : decode prog_14_method_53_code 41 = .ok (.iload_n 1, 1) := by decide +kernel
theorem d_MD_one_42 : decode prog_14_method_53_code 42 = .ok (.iload_n 2, 1) := by decide +kernel
theorem d_MD_one_43 : decode prog_14_method_53_code 43 = .ok (.if_icmp .ne 12, 3) := by decide +kernel
theorem d_MD_one_46 : decode prog_14_method_53_code 46 = .ok (.iconst 1, 1) := by decide +kernel
theorem d_MD_one_47 : decode prog_14_method_53_code 47 = .ok (.aload_n 0, 1) := by decide +kernel
theorem d_MD_one_48 : decode prog_14_method_53_code 48 = .ok (.getfield 13, 3) := by decide +kernel
theorem d_MD_one_51 : decode prog_14_method_53_code 51 = .ok (.irem, 1) := by decide +kernel
theorem d_MD_one_52 : decode prog_14_method_53_code 52 = .ok (.goto 31, 3) := by decide +kernel
theorem d_MD_one_55 : decode prog_14_method_53_code 55 = .ok (.aload_n 0, 1) := by decide +kernel
theorem d_MD_one_56 : decode prog_14_method_53_code 56 = .ok (.iload_n 1, 1) := by decide +kernel
theorem d_MD_one_57 : decode prog_14_method_53_code 57 = .ok (.invokevirtual 185, 3) := by decide +kernel
theorem d_MD_one_60 : decode prog_14_method_53_code 60 = .ok (.aload_n 0, 1) := by decide +kernel
theorem d_MD_one_61 : decode prog_14_method_53_code 61 = .ok (.iload_n 2, 1) := by decide +kernel
theorem d_MD_one_62 : decode prog_14_method_53_code 62 = .ok (.invokevirtual 185, 3) := by decide +kernel
theorem d_MD_one_65 : decode prog_14_method_53_code 65 = .ok (.if_icmp .ge 7, 3) := by decide +kernel
theorem d_MD_one_68 : decode prog_14_method_53_code 68 = .ok (.iconst 0, 1) := by decide +kernel
theorem d_MD_one_69 : decode prog_14_method_53_code 69 = .ok (.goto 14, 3) := by decide +kernel
theorem d_MD_one_72 : decode prog_14_method_53_code 72 = .ok (.aload_n 0, 1) := by decide +kernel
theorem d_MD_one_73 : decode prog_14_method_53_code 73 = .ok (.getfield 66, 3) := by decide +kernel
theorem d_MD_one_76 : decode prog_14_method_53_code 76 = .ok (.bipush 24, 2) := by decide +kernel
theorem d_MD_one_78 : decode prog_14_method_53_code 78 = .ok (.iload_n 1, 1) := by decide +kernel
theorem d_MD_one_79 : decode prog_14_method_53_code 79 = .ok (.imul, 1) := by decide +kernel
theorem d_MD_one_80 : decode prog_14_method_53_code 80 = .ok (.iload_n 2, 1) := by decide +kernel
theorem d_MD_one_81 : decode prog_14_method_53_code 81 = .ok (.iadd, 1) := by decide +kernel
theorem d_MD_one_82 : decode prog_14_method_53_code 82 = .ok (.iaload, 1) := by decide +kernel
theorem d_MD_one_83 : decode prog_14_method_53_code 83 = .ok (.ireturn, 1) := by decide +kernel
def MD_one_16 (h0 : Nat) (I : jM) (K : Int32 → jM → Prop) : Prop :=
  MD_refuse h0 (-1 : Int32) I (fun r_1 I_2 => K r_1 I_2)
set_option maxRecDepth 100000 in
set_option maxHeartbeats 4000000 in
theorem k_MD_one_16 {Z : jZ} {E : jE} (C : jC Z E prog_14_method_53_code 3 "OutOrderModel" 2 43) (hr : (jZh Z).sig.returnType = (some .int)) (hE : E.2.2.2 = jLM)  (h0 : Nat) (I : jM) (g_h0 : jOB E 11 h0) {K : Int32 → jM → Prop} (h : MD_one_16 h0 I K) : jJ Z E 3 (jQi Z E K) 16 [(0, .ref (E.2.2.1 h0))] [] I := by
  unfold MD_one_16 at h
  refine j_aload_n C d_MD_one_16 rfl 0 rfl ?_
  refine j_iconst C d_MD_one_17 ic_m1 ?_
  refine j_callVi (As := [.int (-1 : Int32)]) C jcl_MD cw_MD_79 w_809 ws_23 g_h0 rfl rfl (by decide) (by decide) (Nat.le_of_ble_eq_true rfl) d_MD_one_18 (s_MD_refuse C.ok hE g_h0 h) (fun r_1 I_2 h => ?_)
  exact j_iret C hr d_MD_one_21 h
/-- OutOrderModel.one(II)I -/
def MD_one (h0 : Nat) (v1 : Int32) (v2 : Int32) (I : jM) (K : Int32 → jM → Prop) : Prop :=
  MD_isUnknown h0 v1 I (fun r_1 => ((r_1 = 0 → MD_one_16 h0 I K) ∧ (¬ r_1 = 0 → MD_isUnknown h0 v2 I (fun r_2 => ((¬ r_2 = 0 → MD_placeOf h0 v2 I (fun r_3 => ((r_3 < (I h0 18) → ((¬ v1 = v2 → MD_placeOf h0 v1 I (fun r_4 => MD_placeOf h0 v2 I (fun r_5 => ((r_5 ≤ r_4 → (vp_in (((24 : Int32) * v1) + v2) 576 ∧ K (I (jr h0 21) (((24 : Int32) * v1) + v2).toNatClampNeg) I)) ∧ (¬ r_5 ≤ r_4 → K (0 : Int32) I))))) ∧ (v1 = v2 → (¬ (I h0 1) = 0 ∧ K ((1 : Int32) - (1 : Int32) / (I h0 1) * (I h0 1)) I)))) ∧ (¬ r_3 < (I h0 18) → MD_refuse h0 (-5 : Int32) I (fun r_6 I_7 => K r_6 I_7))))) ∧ (r_2 = 0 → MD_one_16 h0 I K))))))
set_option maxRecDepth 100000 in
set_option maxHeartbeats 4000000 in
theorem s_MD_one {l : Launch} {E : jE} (ok : jOK E) (hE : E.2.2.2 = jLM) {h0 : Nat} {v1 : Int32} {v2 : Int32} (g_h0 : jOB E 11 h0) {I : jM} {K : Int32 → jM → Prop} (h : MD_one h0 v1 v2 I K) : jSi l E ⟨"OutOrderModel", "one", "(II)I"⟩ prog_14_method_53_code 3 (some .int) 2 43 [.ref (E.2.2.1 h0), .int v1, .int v2] I K := by
  refine jS_ofF (own := "OutOrderModel") (by decide +kernel) rfl ok (Nat.le_of_ble_eq_true rfl) (fun Z _ C hr => ?_)
  show jJ Z E 3 (jQi Z E K) 0 [(0, .ref (E.2.2.1 h0)), (1, .int v1), (2, .int v2)] [] I
  unfold MD_one at h
  refine j_aload_n C d_MD_one_0 rfl 0 rfl ?_
  refine j_iload_n C d_MD_one_1 rfl 1 rfl ?_
  refine j_callVi (As := [.int v1]) C jcl_MD cw_MD_90 w_829 ws_26 g_h0 rfl rfl (by decide) (by decide) (Nat.le_of_ble_eq_true rfl) d_MD_one_2 (s_MD_isUnknown C.ok g_h0 h) (fun r_1 I2 h => ?_)
  obtain ⟨rfl, h⟩ := h
  refine j_if_eq C d_MD_one_5 (tgt := 16) (by decide) (fun c5 => ?_) (fun c5 => ?_)
  · have h := h.1 c5
    refine j_lv [0] rfl ?_
    exact k_MD_one_16 C hr hE h0 I g_h0 h
  · have h := h.2 c5
    refine j_aload_n C d_MD_one_8 rfl 0 rfl ?_
    refine j_iload_n C d_MD_one_9 rfl 2 rfl ?_
    refine j_callVi (As := [.int v2]) C jcl_MD cw_MD_90 w_829 ws_26 g_h0 rfl rfl (by decide) (by decide) (Nat.le_of_ble_eq_true rfl) d_MD_one_10 (s_MD_isUnknown C.ok g_h0 h) (fun r_2 I2 h => ?_)
    obtain ⟨rfl, h⟩ := h
    refine j_if_ne C d_MD_one_13 (tgt := 22) (by decide) (fun c13 => ?_) (fun c13 => ?_)
    · have h := h.1 c13
      refine j_aload_n C d_MD_one_22 rfl 0 rfl ?_
      refine j_iload_n C d_MD_one_23 rfl 2 rfl ?_
      refine j_callVi (As := [.int v2]) C jcl_MD cw_MD_185 w_999 ws_47 g_h0 rfl rfl (by decide) (by decide) (Nat.le_of_ble_eq_true rfl) d_MD_one_24 (s_MD_placeOf C.ok hE g_h0 h) (fun r_3 I2 h => ?_)
      obtain ⟨rfl, h⟩ := h
      refine j_aload_n C d_MD_one_27 rfl 0 rfl ?_
      refine fg_MD_176 C g_h0 d_MD_one_28 ?_
      refine j_icmp_lt C d_MD_one_31 (tgt := 41) (by decide) (fun c31 => ?_) (fun c31 => ?_)
      · have h := h.1 c31
        refine j_iload_n C d_MD_one_41 rfl 1 rfl ?_
        refine j_iload_n C d_MD_one_42 rfl 2 rfl ?_
        refine j_icmp_ne C d_MD_one_43 (tgt := 55) (by decide) (fun c43 => ?_) (fun c43 => ?_)
        · have h := h.1 c43
          refine j_aload_n C d_MD_one_55 rfl 0 rfl ?_
          refine j_iload_n C d_MD_one_56 rfl 1 rfl ?_
          refine j_callVi (As := [.int v1]) C jcl_MD cw_MD_185 w_999 ws_47 g_h0 rfl rfl (by decide) (by decide) (Nat.le_of_ble_eq_true rfl) d_MD_one_57 (s_MD_placeOf C.ok hE g_h0 h) (fun r_4 I2 h => ?_)
          obtain ⟨rfl, h⟩ := h
          refine j_aload_n C d_MD_one_60 rfl 0 rfl ?_
          refine j_iload_n C d_MD_one_61 rfl 2 rfl ?_
          refine j_callVi (As := [.int v2]) C jcl_MD cw_MD_185 w_999 ws_47 g_h0 rfl rfl (by decide) (by decide) (Nat.le_of_ble_eq_true rfl) d_MD_one_62 (s_MD_placeOf C.ok hE g_h0 h) (fun r_5 I2 h => ?_)
          obtain ⟨rfl, h⟩ := h
          refine j_icmp_ge C d_MD_one_65 (tgt := 72) (by decide) (fun c65 => ?_) (fun c65 => ?_)
          · have h := h.1 c65
            refine j_aload_n C d_MD_one_72 rfl 0 rfl ?_
            refine fg_MD_66 C g_h0 d_MD_one_73 ?_
            refine j_bipush C d_MD_one_76 ib_24 ?_
            refine j_iload_n C d_MD_one_78 rfl 1 rfl ?_
            refine j_imul C d_MD_one_79 ?_
            refine j_iload_n C d_MD_one_80 rfl 2 rfl ?_
            refine j_iadd C d_MD_one_81 ?_
            obtain ⟨hi, h⟩ := h
            refine j_iaload C (sh_MD_21 hE g_h0) hi d_MD_one_82 ?_
            exact j_iret C hr d_MD_one_83 h
          · have h := h.2 c65
            refine j_iconst C d_MD_one_68 ic_0 ?_
            refine j_goto C d_MD_one_69 (tgt := 83) (by decide) ?_
            exact j_iret C hr d_MD_one_83 h
        · have h := h.2 c43
          refine j_iconst C d_MD_one_46 ic_1 ?_
          refine j_aload_n C d_MD_one_47 rfl 0 rfl ?_
          refine fg_MD_13 C g_h0 d_MD_one_48 ?_
          obtain ⟨hn, h⟩ := h
          refine j_irem C d_MD_one_51 hn ?_
          refine j_goto C d_MD_one_52 (tgt := 83) (by decide) ?_
          exact j_iret C hr d_MD_one_83 h
      · have h := h.2 c31
        refine j_aload_n C d_MD_one_34 rfl 0 rfl ?_
        refine j_bipush C d_MD_one_35 ib_m5 ?_
        refine j_callVi (As := [.int (-5 : Int32)]) C jcl_MD cw_MD_79 w_809 ws_23 g_h0 rfl rfl (by decide) (by decide) (Nat.le_of_ble_eq_true rfl) d_MD_one_37 (s_MD_refuse C.ok hE g_h0 h) (fun r_6 I_7 h => ?_)
        exact j_iret C hr d_MD_one_40 h
    · have h := h.2 c13
      refine j_lv [0] rfl ?_
      exact k_MD_one_16 C hr hE h0 I g_h0 h
theorem d_MD_someHeld_0 : decode prog_14_method_12_code 0 = .ok (.iconst 0, 1) := by decide +kernel
theorem d_MD_someHeld_1 : decode prog_14_method_12_code 1 = .ok (.istore_n 1, 1) := by decide +kernel
theorem d_MD_someHeld_2 : decode prog_14_method_12_code 2 = .ok (.iconst 0, 1) := by decide +kernel
theorem d_MD_someHeld_3 : decode prog_14_method_12_code 3 = .ok (.istore_n 2, 1) := by decide +kernel
theorem d_MD_someHeld_4 : decode prog_14_method_12_code 4 = .ok (.iload_n 2, 1) := by decide +kernel
theorem d_MD_someHeld_5 : decode prog_14_method_12_code 5 = .ok (.aload_n 0, 1) := by decide +kernel
theorem d_MD_someHeld_6 : decode prog_14_method_12_code 6 = .ok (.getfield 7, 3) := by decide +kernel
theorem d_MD_someHeld_9 : decode prog_14_method_12_code 9 = .ok (.if_icmp .ge 28, 3) := by decide +kernel
theorem d_MD_someHeld_12 : decode prog_14_method_12_code 12 = .ok (.iload_n 1, 1) := by decide +kernel
theorem d_MD_someHeld_13 : decode prog_14_method_12_code 13 = .ok (.ifCond .ne 12, 3) := by decide +kernel
theorem d_MD_someHeld_16 : decode prog_14_method_12_code 16 = .ok (.aload_n 0, 1) := by decide +kernel
theorem d_MD_someHeld_17 : decode prog_14_method_12_code 17 = .ok (.getfield 20, 3) := by decide +kernel
theorem d_MD_someHeld_20 : decode prog_14_method_12_code 20 = .ok (.iload_n 2, 1) := by decide +kernel
theorem d_MD_someHeld_21 : decode prog_14_method_12_code 21 = .ok (.baload, 1) := by decide +kernel
theorem d_MD_someHeld_22 : decode prog_14_method_12_code 22 = .ok (.ifCond .eq 7, 3) := by decide +kernel
theorem d_MD_someHeld_25 : decode prog_14_method_12_code 25 = .ok (.iconst 1, 1) := by decide +kernel
theorem d_MD_someHeld_26 : decode prog_14_method_12_code 26 = .ok (.goto 4, 3) := by decide +kernel
theorem d_MD_someHeld_29 : decode prog_14_method_12_code 29 = .ok (.iconst 0, 1) := by decide +kernel
theorem d_MD_someHeld_30 : decode prog_14_method_12_code 30 = .ok (.istore_n 1, 1) := by decide +kernel
theorem d_MD_someHeld_31 : decode prog_14_method_12_code 31 = .ok (.iinc 2 1, 3) := by decide +kernel
theorem d_MD_someHeld_34 : decode prog_14_method_12_code 34 = .ok (.goto (-30), 3) := by decide +kernel
theorem d_MD_someHeld_37 : decode prog_14_method_12_code 37 = .ok (.iload_n 1, 1) := by decide +kernel
theorem d_MD_someHeld_38 : decode prog_14_method_12_code 38 = .ok (.ireturn, 1) := by decide +kernel
def MD_someHeld_4b (h0 : Nat) (v1 : Int32) (v2 : Int32) (I : jM) (K : Int32 → Prop) (X4 : Int32 × Int32 → Prop) : Prop :=
  (((I h0 0) ≤ v2 → (narrow .boolean (.int v1) = .int v1 ∧ K v1)) ∧ (¬ (I h0 0) ≤ v2 → ((¬ v1 = 0 → X4 ((1 : Int32), (v2 + 1))) ∧ (v1 = 0 → (vp_in v2 24 ∧ (((I (jr h0 3) v2.toNatClampNeg) = 0 → X4 ((0 : Int32), (v2 + 1))) ∧ (¬ (I (jr h0 3) v2.toNatClampNeg) = 0 → X4 ((1 : Int32), (v2 + 1)))))))))
def MD_someHeld_4 (h0 : Nat) (v1 : Int32) (v2 : Int32) (I : jM) (K : Int32 → Prop) : Prop :=
  lp (fun (X4 : Int32 × Int32 → Prop) (s : Int32 × Int32) => MD_someHeld_4b h0 s.1 s.2 I K X4) (v1, v2)
set_option maxRecDepth 100000 in
set_option maxHeartbeats 4000000 in
theorem kb_MD_someHeld_4 {Z : jZ} {E : jE} (C : jC Z E prog_14_method_12_code 3 "OutOrderModel" 0 0) (hr : (jZh Z).sig.returnType = (some .boolean)) (hE : E.2.2.2 = jLM)  (h0 : Nat) (v1 : Int32) (v2 : Int32) (I : jM) (g_h0 : jOB E 11 h0) {K : Int32 → Prop} {X4 : Int32 × Int32 → Prop} (hX4 : ∀ s : Int32 × Int32, X4 s → jJ Z E 3 (jQi Z E (fun r I2 => I = I2 ∧ K r)) 4 [(0, .ref (E.2.2.1 h0)), (1, .int s.1), (2, .int s.2)] [] I) (h : MD_someHeld_4b h0 v1 v2 I K X4) : jJ Z E 3 (jQi Z E (fun r I2 => I = I2 ∧ K r)) 4 [(0, .ref (E.2.2.1 h0)), (1, .int v1), (2, .int v2)] [] I := by
  unfold MD_someHeld_4b at h
  refine j_iload_n C d_MD_someHeld_4 rfl 2 rfl ?_
  refine j_aload_n C d_MD_someHeld_5 rfl 0 rfl ?_
  refine fg_MD_7 C g_h0 d_MD_someHeld_6 ?_
  refine j_icmp_ge C d_MD_someHeld_9 (tgt := 37) (by decide) (fun c9 => ?_) (fun c9 => ?_)
  · have h := h.1 c9
    refine j_iload_n C d_MD_someHeld_37 rfl 1 rfl ?_
    obtain ⟨hz, h⟩ := h
    exact j_zret C hr hz d_MD_someHeld_38 ⟨rfl, h⟩
  · have h := h.2 c9
    refine j_iload_n C d_MD_someHeld_12 rfl 1 rfl ?_
    refine j_if_ne C d_MD_someHeld_13 (tgt := 25) (by decide) (fun c13 => ?_) (fun c13 => ?_)
    · have h := h.1 c13
      refine j_iconst C d_MD_someHeld_25 ic_1 ?_
      refine j_goto C d_MD_someHeld_26 (tgt := 30) (by decide) ?_
      refine j_istore_n C d_MD_someHeld_30 rfl (by decide) (lv' := [(1, .int (1 : Int32)), (0, .ref (E.2.2.1 h0)), (2, .int v2)]) rfl ?_
      refine j_iinc C d_MD_someHeld_31 2 rfl (v := (v2 + 1)) rfl (by decide) (lv' := [(2, .int (v2 + 1)), (1, .int (1 : Int32)), (0, .ref (E.2.2.1 h0))]) rfl ?_
      refine j_goto C d_MD_someHeld_34 (tgt := 4) (by decide) ?_
      refine j_lv [2, 1, 0] rfl ?_
      exact hX4 ((1 : Int32), (v2 + 1)) h
    · have h := h.2 c13
      refine j_aload_n C d_MD_someHeld_16 rfl 0 rfl ?_
      refine fg_MD_20 C g_h0 d_MD_someHeld_17 ?_
      refine j_iload_n C d_MD_someHeld_20 rfl 2 rfl ?_
      obtain ⟨hi, h⟩ := h
      refine j_zaload C (sh_MD_3 hE g_h0) hi d_MD_someHeld_21 ?_
      refine j_if_eq C d_MD_someHeld_22 (tgt := 29) (by decide) (fun c22 => ?_) (fun c22 => ?_)
      · have h := h.1 c22
        refine j_iconst C d_MD_someHeld_29 ic_0 ?_
        refine j_istore_n C d_MD_someHeld_30 rfl (by decide) (lv' := [(1, .int (0 : Int32)), (0, .ref (E.2.2.1 h0)), (2, .int v2)]) rfl ?_
        refine j_iinc C d_MD_someHeld_31 2 rfl (v := (v2 + 1)) rfl (by decide) (lv' := [(2, .int (v2 + 1)), (1, .int (0 : Int32)), (0, .ref (E.2.2.1 h0))]) rfl ?_
        refine j_goto C d_MD_someHeld_34 (tgt := 4) (by decide) ?_
        refine j_lv [2, 1, 0] rfl ?_
        exact hX4 ((0 : Int32), (v2 + 1)) h
      · have h := h.2 c22
        refine j_iconst C d_MD_someHeld_25 ic_1 ?_
        refine j_goto C d_MD_someHeld_26 (tgt := 30) (by decide) ?_
        refine j_istore_n C d_MD_someHeld_30 rfl (by decide) (lv' := [(1, .int (1 : Int32)), (0, .ref (E.2.2.1 h0)), (2, .int v2)]) rfl ?_
        refine j_iinc C d_MD_someHeld_31 2 rfl (v := (v2 + 1)) rfl (by decide) (lv' := [(2, .int (v2 + 1)), (1, .int (1 : Int32)), (0, .ref (E.2.2.1 h0))]) rfl ?_
        refine j_goto C d_MD_someHeld_34 (tgt := 4) (by decide) ?_
        refine j_lv [2, 1, 0] rfl ?_
        exact hX4 ((1 : Int32), (v2 + 1)) h
theorem k_MD_someHeld_4 {Z : jZ} {E : jE} (C : jC Z E prog_14_method_12_code 3 "OutOrderModel" 0 0) (hr : (jZh Z).sig.returnType = (some .boolean)) (hE : E.2.2.2 = jLM)  (h0 : Nat) (v1 : Int32) (v2 : Int32) (I : jM) (g_h0 : jOB E 11 h0) {K : Int32 → Prop} (h : MD_someHeld_4 h0 v1 v2 I K) : jJ Z E 3 (jQi Z E (fun r I2 => I = I2 ∧ K r)) 4 [(0, .ref (E.2.2.1 h0)), (1, .int v1), (2, .int v2)] [] I := by
  unfold MD_someHeld_4 at h
  exact h (fun s => jJ Z E 3 (jQi Z E (fun r I2 => I = I2 ∧ K r)) 4 [(0, .ref (E.2.2.1 h0)), (1, .int s.1), (2, .int s.2)] [] I) (fun s hs => kb_MD_someHeld_4 C hr hE h0 s.1 s.2 I g_h0 (fun s2 h2 => h2) hs)
/-- OutOrderModel.someHeld()Z -/
def MD_someHeld (h0 : Nat) (I : jM) (K : Int32 → Prop) : Prop :=
  MD_someHeld_4 h0 (0 : Int32) (0 : Int32) I K
set_option maxRecDepth 100000 in
set_option maxHeartbeats 4000000 in
theorem s_MD_someHeld {l : Launch} {E : jE} (ok : jOK E) (hE : E.2.2.2 = jLM) {h0 : Nat} (g_h0 : jOB E 11 h0) {I : jM} {K : Int32 → Prop} (h : MD_someHeld h0 I K) : jSi l E ⟨"OutOrderModel", "someHeld", "()Z"⟩ prog_14_method_12_code 3 (some .boolean) 0 0 [.ref (E.2.2.1 h0)] I (fun r I2 => I = I2 ∧ K r) := by
  refine jS_ofF (own := "OutOrderModel") (by decide +kernel) rfl ok (Nat.le_of_ble_eq_true rfl) (fun Z _ C hr => ?_)
  show jJ Z E 3 (jQi Z E (fun r I2 => I = I2 ∧ K r)) 0 [(0, .ref (E.2.2.1 h0))] [] I
  unfold MD_someHeld at h
  refine j_iconst C d_MD_someHeld_0 ic_0 ?_
  refine j_istore_n C d_MD_someHeld_1 rfl (by decide) (lv' := [(1, .int (0 : Int32)), (0, .ref (E.2.2.1 h0))]) rfl ?_
  refine j_iconst C d_MD_someHeld_2 ic_0 ?_
  refine j_istore_n C d_MD_someHeld_3 rfl (by decide) (lv' := [(2, .int (0 : Int32)), (1, .int (0 : Int32)), (0, .ref (E.2.2.1 h0))]) rfl ?_
  refine j_lv [2, 1, 0] rfl ?_
  exact k_MD_someHeld_4 C hr hE h0 (0 : Int32) (0 : Int32) I g_h0 h
theorem d_MD_order_0 : decode prog_14_method_25_code 0 = .ok (.iload_n 1, 1) := by decide +kernel
theorem d_MD_order_1 : decode prog_14_method_25_code 1 = .ok (.iconst 0, 1) := by decide +kernel
theorem d_MD_order_2 : decode prog_14_method_25_code 2 = .ok (.bipush 6, 2) := by decide +kernel
theorem d_MD_order_4 : decode prog_14_method_25_code 4 = .ok (.invokestatic 75, 3) := by decide +kernel
theorem d_MD_order_7 : decode prog_14_method_25_code 7 = .ok (.ifCond .ne 10, 3) := by decide +kernel
theorem d_MD_order_10 : decode prog_14_method_25_code 10 = .ok (.aload_n 0, 1) := by decide +kernel
theorem d_MD_order_11 : decode prog_14_method_25_code 11 = .ok (.bipush (-2), 2) := by decide +kernel
theorem d_MD_order_13 : decode prog_14_method_25_code 13 = .ok (.invokevirtual 79, 3) := by decide +kernel
theorem d_MD_order_16 : decode prog_14_method_25_code 16 = .ok (.ireturn, 1) := by decide +kernel
theorem d_MD_order_17 : decode prog_14_method_25_code 17 = .ok (.iload_n 1, 1) := by decide +kernel
theorem d_MD_order_18 : decode prog_14_method_25_code 18 = .ok (.iconst 3, 1) := by decide +kernel
theorem d_MD_order_19 : decode prog_14_method_25_code 19 = .ok (.iconst 5, 1) := by decide +kernel
theorem d_MD_order_20 : decode prog_14_method_25_code 20 = .ok (.invokestatic 75, 3) := by decide +kernel
theorem d_MD_order_23 : decode prog_14_method_25_code 23 = .ok (.ifCond .eq 17, 3) := by decide +kernel
theorem d_MD_order_26 : decode prog_14_method_25_code 26 = .ok (.aload_n 0, 1) := by decide +kernel
theorem d_MD_order_27 : decode prog_14_method_25_code 27 = .ok (.invokevirtual 129, 3) := by decide +kernel
theorem d_MD_order_30 : decode prog_14_method_25_code 30 = .ok (.ifCond .eq 10, 3) := by decide +kernel
theorem d_MD_order_33 : decode prog_14_method_25_code 33 = .ok (.aload_n 0, 1) := by decide +kernel
theorem d_MD_order_34 : decode prog_14_method_25_code 34 = .ok (.bipush (-5), 2) := by decide +kernel
theorem d_MD_order_36 : decode prog_14_method_25_code 36 = .ok (.invokevirtual 79, 3) := by decide +kernel
theorem d_MD_order_39 : decode prog_14_method_25_code 39 = .ok (.ireturn, 1) := by decide +kernel
theorem d_MD_order_40 : decode prog_14_method_25_code 40 = .ok (.iload_n 1, 1) := by decide +kernel
theorem d_MD_order_41 : decode prog_14_method_25_code 41 = .ok (.iconst 4, 1) := by decide +kernel
theorem d_MD_order_42 : decode prog_14_method_25_code 42 = .ok (.iconst 5, 1) := by decide +kernel
theorem d_MD_order_43 : decode prog_14_method_25_code 43 = .ok (.invokestatic 75, 3) := by decide +kernel
theorem d_MD_order_46 : decode prog_14_method_25_code 46 = .ok (.ifCond .eq 19, 3) := by decide +kernel
theorem d_MD_order_49 : decode prog_14_method_25_code 49 = .ok (.aload_n 0, 1) := by decide +kernel
theorem d_MD_order_50 : decode prog_14_method_25_code 50 = .ok (.getfield 7, 3) := by decide +kernel
theorem d_MD_order_53 : decode prog_14_method_25_code 53 = .ok (.bipush 12, 2) := by decide +kernel
theorem d_MD_order_55 : decode prog_14_method_25_code 55 = .ok (.if_icmp .le 10, 3) := by decide +kernel
theorem d_MD_order_58 : decode prog_14_method_25_code 58 = .ok (.aload_n 0, 1) := by decide +kernel
theorem d_MD_order_59 : decode prog_14_method_25_code 59 = .ok (.bipush (-6), 2) := by decide +kernel
theorem d_MD_order_61 : decode prog_14_method_25_code 61 = .ok (.invokevirtual 79, 3) := by decide +kernel
theorem d_MD_order_64 : decode prog_14_method_25_code 64 = .ok (.ireturn, 1) := by decide +kernel
theorem d_MD_order_65 : decode prog_14_method_25_code 65 = .ok (.aload_n 0, 1) := by decide +kernel
theorem d_MD_order_66 : decode prog_14_method_25_code 66 = .ok (.invokevirtual 83, 3) := by decide +kernel
theorem d_MD_order_69 : decode prog_14_method_25_code 69 = .ok (.iload_n 1, 1) := by decide +kernel
theorem d_MD_order_70 : decode prog_14_method_25_code 70 = .ok (.tableswitch 86 0 5 #[38, 45, 45, 62, 69, 69], 38) := by decide +kernel
theorem d_MD_order_108 : decode prog_14_method_25_code 108 = .ok (.aload_n 0, 1) := by decide +kernel
theorem d_MD_order_109 : decode prog_14_method_25_code 109 = .ok (.invokevirtual 133, 3) := by decide +kernel
theorem d_MD_order_112 : decode prog_14_method_25_code 112 = .ok (.goto 104, 3) := by decide +kernel
theorem d_MD_order_115 : decode prog_14_method_25_code 115 = .ok (.aload_n 0, 1) := by decide +kernel
theorem d_MD_order_116 : decode prog_14_method_25_code 116 = .ok (.iload_n 1, 1) := by decide +kernel
theorem d_MD_order_117 : decode prog_14_method_25_code 117 = .ok (.iconst 2, 1) := by decide +kernel
theorem d_MD_order_118 : decode prog_14_method_25_code 118 = .ok (.if_icmp .ne 7, 3) := by decide +kernel
theorem d_MD_order_121 : decode prog_14_method_25_code 121 = .ok (.iconst 1, 1) := by decide +kernel
theorem d_MD_order_122 : decode prog_14_method_25_code 122 = .ok (.goto 4, 3) := by decide +kernel
theorem d_MD_order_125 : decode prog_14_method_25_code 125 = .ok (.iconst 0, 1) := by decide +kernel
theorem d_MD_order_126 : decode prog_14_method_25_code 126 = .ok (.invokevirtual 136, 3) := by decide +kernel
theorem d_MD_order_129 : decode prog_14_method_25_code 129 = .ok (.goto 87, 3) := by decide +kernel
theorem d_MD_order_132 : decode prog_14_method_25_code 132 = .ok (.aload_n 0, 1) := by decide +kernel
theorem d_MD_order_133 : decode prog_14_method_25_code 133 = .ok (.invokevirtual 139, 3) := by decide +kernel
theorem d_MD_order_136 : decode prog_14_method_25_code 136 = .ok (.goto 80, 3) := by decide +kernel
theorem d_MD_order_139 : decode prog_14_method_25_code 139 = .ok (.aload_n 0, 1) := by decide +kernel
theorem d_MD_order_140 : decode prog_14_method_25_code 140 = .ok (.iload_n 1, 1) := by decide +kernel
theorem d_MD_order_141 : decode prog_14_method_25_code 141 = .ok (.iconst 4, 1) := by decide +kernel
theorem d_MD_order_142 : decode prog_14_method_25_code 142 = .ok (.if_icmp .ne 7, 3) := by decide +kernel
theorem d_MD_order_145 : decode prog_14_method_25_code 145 = .ok (.iconst 1, 1) := by decide +kernel
theorem d_MD_order_146 : decode prog_14_method_25_code 146 = .ok (.goto 4, 3) := by decide +kernel
theorem d_MD_order_149 : decode prog_14_method_25_code 149 = .ok (.iconst 0, 1) := by decide +kernel
theorem d_MD_order_150 : decode prog_14_method_25_code 150 = .ok (.invokevirtual 142, 3) := by decide +kernel
theorem d_MD_order_153 : decode prog_14_method_25_code 153 = .ok (.goto 63, 3) := by decide +kernel
theorem d_MD_order_156 : decode prog_14_method_25_code 156 = .ok (.iconst 0, 1) := by decide +kernel
theorem d_MD_order_157 : decode prog_14_method_25_code 157 = .ok (.istore_n 2, 1) := by decide +kernel
theorem d_MD_order_158 : decode prog_14_method_25_code 158 = .ok (.iconst 2, 1) := by decide +kernel
theorem d_MD_order_159 : decode prog_14_method_25_code 159 = .ok (.iload_n 2, 1) := by decide +kernel
theorem d_MD_order_160 : decode prog_14_method_25_code 160 = .ok (.imul, 1) := by decide +kernel
theorem d_MD_order_161 : decode prog_14_method_25_code 161 = .ok (.aload_n 0, 1) := by decide +kernel
theorem d_MD_order_162 : decode prog_14_method_25_code 162 = .ok (.getfield 7, 3) := by decide +kernel
theorem d_MD_order_165 : decode prog_14_method_25_code 165 = .ok (.iconst 1, 1) := by decide +kernel
theorem d_MD_order_166 : decode prog_14_method_25_code 166 = .ok (.isub, 1) := by decide +kernel
theorem d_MD_order_167 : decode prog_14_method_25_code 167 = .ok (.if_icmp .ge 49, 3) := by decide +kernel
theorem d_MD_order_170 : decode prog_14_method_25_code 170 = .ok (.aload_n 0, 1) := by decide +kernel
theorem d_MD_order_171 : decode prog_14_method_25_code 171 = .ok (.getfield 24, 3) := by decide +kernel
theorem d_MD_order_174 : decode prog_14_method_25_code 174 = .ok (.iload_n 2, 1) := by decide +kernel
theorem d_MD_order_175 : decode prog_14_method_25_code 175 = .ok (.iaload, 1) := by decide +kernel
theorem d_MD_order_176 : decode prog_14_method_25_code 176 = .ok (.istore_n 3, 1) := by decide +kernel
theorem d_MD_order_177 : decode prog_14_method_25_code 177 = .ok (.aload_n 0, 1) := by decide +kernel
theorem d_MD_order_178 : decode prog_14_method_25_code 178 = .ok (.getfield 24, 3) := by decide +kernel
theorem d_MD_order_181 : decode prog_14_method_25_code 181 = .ok (.iload_n 2, 1) := by decide +kernel
theorem d_MD_order_182 : decode prog_14_method_25_code 182 = .ok (.aload_n 0, 1) := by decide +kernel
theorem d_MD_order_183 : decode prog_14_method_25_code 183 = .ok (.getfield 24, 3) := by decide +kernel
theorem d_MD_order_186 : decode prog_14_method_25_code 186 = .ok (.aload_n 0, 1) := by decide +kernel
theorem d_MD_order_187 : decode prog_14_method_25_code 187 = .ok (.getfield 7, 3) := by decide +kernel
theorem d_MD_order_190 : decode prog_14_method_25_code 190 = .ok (.iconst 1, 1) := by decide +kernel
theorem d_MD_order_191 : decode prog_14_method_25_code 191 = .ok (.isub, 1) := by decide +kernel
theorem d_MD_order_192 : decode prog_14_method_25_code 192 = .ok (.iload_n 2, 1) := by decide +kernel
theorem d_MD_order_193 : decode prog_14_method_25_code 193 = .ok (.isub, 1) := by decide +kernel
theorem d_MD_order_194 : decode prog_14_method_25_code 194 = .ok (.iaload, 1) := by decide +kernel
theorem d_MD_order_195 : decode prog_14_method_25_code 195 = .ok (.iastore, 1) := by decide +kernel
theorem d_MD_order_196 : decode prog_14_method_25_code 196 = .ok (.aload_n 0, 1) := by decide +kernel
theorem d_MD_order_197 : decode prog_14_method_25_code 197 = .ok (.getfield 24, 3) := by decide +kernel
theorem d_MD_order_200 : decode prog_14_method_25_code 200 = .ok (.aload_n 0, 1) := by decide +kernel
theorem d_MD_order_201 : decode prog_14_method_25_code 201 = .ok (.getfield 7, 3) := by decide +kernel
theorem d_MD_order_204 : decode prog_14_method_25_code 204 = .ok (.iconst 1, 1) := by decide +kernel
theorem d_MD_order_205 : decode prog_14_method_25_code 205 = .ok (.isub, 1) := by decide +kernel
theorem d_MD_order_206 : decode prog_14_method_25_code 206 = .ok (.iload_n 2, 1) := by decide +kernel
theorem d_MD_order_207 : decode prog_14_method_25_code 207 = .ok (.isub, 1) := by decide +kernel
theorem d_MD_order_208 : decode prog_14_method_25_code 208 = .ok (.iload_n 3, 1) := by decide +kernel
theorem d_MD_order_209 : decode prog_14_method_25_code 209 = .ok (.iastore, 1) := by decide +kernel
theorem d_MD_order_210 : decode prog_14_method_25_code 210 = .ok (.iinc 2 1, 3) := by decide +kernel
theorem d_MD_order_213 : decode prog_14_method_25_code 213 = .ok (.goto (-55), 3) := by decide +kernel
theorem d_MD_order_216 : decode prog_14_method_25_code 216 = .ok (.aload_n 0, 1) := by decide +kernel
theorem d_MD_order_217 : decode prog_14_method_25_code 217 = .ok (.invokevirtual 145, 3) := by decide +kernel
theorem d_MD_order_220 : decode prog_14_method_25_code 220 = .ok (.ireturn, 1) := by decide +kernel
def MD_order_216 (h0 : Nat) (I : jM) (K : Int32 → jM → Prop) : Prop :=
  MD_fills h0 I (fun r_1 I_2 => K r_1 I_2)
set_option maxRecDepth 100000 in
set_option maxHeartbeats 4000000 in
theorem k_MD_order_216 {Z : jZ} {E : jE} (C : jC Z E prog_14_method_25_code 4 "OutOrderModel" 4 106) (hr : (jZh Z).sig.returnType = (some .int)) (hE : E.2.2.2 = jLM)  (h0 : Nat) (I : jM) (g_h0 : jOB E 11 h0) {K : Int32 → jM → Prop} (h : MD_order_216 h0 I K) : jJ Z E 4 (jQi Z E K) 216 [(0, .ref (E.2.2.1 h0))] [] I := by
  unfold MD_order_216 at h
  refine j_aload_n C d_MD_order_216 rfl 0 rfl ?_
  refine j_callVi (As := []) C jcl_MD cw_MD_145 w_896 w_897 g_h0 rfl rfl (by decide) (by decide) (Nat.le_of_ble_eq_true rfl) d_MD_order_217 (s_MD_fills C.ok hE g_h0 h) (fun r_1 I_2 h => ?_)
  exact j_iret C hr d_MD_order_220 h
def MD_order_126 (h0 : Nat) (r0 : Nat) (s1 : Int32) (I : jM) (K : Int32 → jM → Prop) : Prop :=
  MD_byFewest r0 s1 I (fun I_2 => MD_order_216 h0 I_2 K)
set_option maxRecDepth 100000 in
set_option maxHeartbeats 4000000 in
theorem k_MD_order_126 {Z : jZ} {E : jE} (C : jC Z E prog_14_method_25_code 4 "OutOrderModel" 4 106) (hr : (jZh Z).sig.returnType = (some .int)) (hE : E.2.2.2 = jLM)  (h0 : Nat) (r0 : Nat) (s1 : Int32) (I : jM) (g_h0 : jOB E 11 h0) (g_r0 : jOB E 11 r0) {K : Int32 → jM → Prop} (h : MD_order_126 h0 r0 s1 I K) : jJ Z E 4 (jQi Z E K) 126 [(0, .ref (E.2.2.1 h0))] [.int s1, .ref (E.2.2.1 r0)] I := by
  unfold MD_order_126 at h
  refine j_callVv (As := [.int s1]) C jcl_MD cw_MD_136 w_860 ws_30 g_r0 rfl rfl (by decide) (by decide) (Nat.le_of_ble_eq_true rfl) d_MD_order_126 (s_MD_byFewest C.ok hE g_r0 h) (fun I_2 h => ?_)
  refine j_goto C d_MD_order_129 (tgt := 216) (by decide) ?_
  refine j_lv [0] rfl ?_
  exact k_MD_order_216 C hr hE h0 I_2 g_h0 h
def MD_order_115 (h0 : Nat) (v1 : Int32) (I : jM) (K : Int32 → jM → Prop) : Prop :=
  ((¬ v1 = (2 : Int32) → MD_order_126 h0 h0 (0 : Int32) I K) ∧ (v1 = (2 : Int32) → MD_order_126 h0 h0 (1 : Int32) I K))
set_option maxRecDepth 100000 in
set_option maxHeartbeats 4000000 in
theorem k_MD_order_115 {Z : jZ} {E : jE} (C : jC Z E prog_14_method_25_code 4 "OutOrderModel" 4 106) (hr : (jZh Z).sig.returnType = (some .int)) (hE : E.2.2.2 = jLM)  (h0 : Nat) (v1 : Int32) (I : jM) (g_h0 : jOB E 11 h0) {K : Int32 → jM → Prop} (h : MD_order_115 h0 v1 I K) : jJ Z E 4 (jQi Z E K) 115 [(0, .ref (E.2.2.1 h0)), (1, .int v1)] [] I := by
  unfold MD_order_115 at h
  refine j_aload_n C d_MD_order_115 rfl 0 rfl ?_
  refine j_iload_n C d_MD_order_116 rfl 1 rfl ?_
  refine j_iconst C d_MD_order_117 ic_2 ?_
  refine j_icmp_ne C d_MD_order_118 (tgt := 125) (by decide) (fun c118 => ?_) (fun c118 => ?_)
  · have h := h.1 c118
    refine j_iconst C d_MD_order_125 ic_0 ?_
    refine j_lv [0] rfl ?_
    exact k_MD_order_126 C hr hE h0 h0 (0 : Int32) I g_h0 g_h0 h
  · have h := h.2 c118
    refine j_iconst C d_MD_order_121 ic_1 ?_
    refine j_goto C d_MD_order_122 (tgt := 126) (by decide) ?_
    refine j_lv [0] rfl ?_
    exact k_MD_order_126 C hr hE h0 h0 (1 : Int32) I g_h0 g_h0 h
def MD_order_150 (h0 : Nat) (r0 : Nat) (s1 : Int32) (I : jM) (K : Int32 → jM → Prop) : Prop :=
  MD_byLeast r0 s1 I (fun I_2 => MD_order_216 h0 I_2 K)
set_option maxRecDepth 100000 in
set_option maxHeartbeats 4000000 in
theorem k_MD_order_150 {Z : jZ} {E : jE} (C : jC Z E prog_14_method_25_code 4 "OutOrderModel" 4 106) (hr : (jZh Z).sig.returnType = (some .int)) (hE : E.2.2.2 = jLM)  (h0 : Nat) (r0 : Nat) (s1 : Int32) (I : jM) (g_h0 : jOB E 11 h0) (g_r0 : jOB E 11 r0) {K : Int32 → jM → Prop} (h : MD_order_150 h0 r0 s1 I K) : jJ Z E 4 (jQi Z E K) 150 [(0, .ref (E.2.2.1 h0))] [.int s1, .ref (E.2.2.1 r0)] I := by
  unfold MD_order_150 at h
  refine j_callVv (As := [.int s1]) C jcl_MD cw_MD_142 w_877 ws_32 g_r0 rfl rfl (by decide) (by decide) (Nat.le_of_ble_eq_true rfl) d_MD_order_150 (s_MD_byLeast C.ok hE g_r0 h) (fun I_2 h => ?_)
  refine j_goto C d_MD_order_153 (tgt := 216) (by decide) ?_
  refine j_lv [0] rfl ?_
  exact k_MD_order_216 C hr hE h0 I_2 g_h0 h
def MD_order_139 (h0 : Nat) (v1 : Int32) (I : jM) (K : Int32 → jM → Prop) : Prop :=
  ((¬ v1 = (4 : Int32) → MD_order_150 h0 h0 (0 : Int32) I K) ∧ (v1 = (4 : Int32) → MD_order_150 h0 h0 (1 : Int32) I K))
set_option maxRecDepth 100000 in
set_option maxHeartbeats 4000000 in
theorem k_MD_order_139 {Z : jZ} {E : jE} (C : jC Z E prog_14_method_25_code 4 "OutOrderModel" 4 106) (hr : (jZh Z).sig.returnType = (some .int)) (hE : E.2.2.2 = jLM)  (h0 : Nat) (v1 : Int32) (I : jM) (g_h0 : jOB E 11 h0) {K : Int32 → jM → Prop} (h : MD_order_139 h0 v1 I K) : jJ Z E 4 (jQi Z E K) 139 [(0, .ref (E.2.2.1 h0)), (1, .int v1)] [] I := by
  unfold MD_order_139 at h
  refine j_aload_n C d_MD_order_139 rfl 0 rfl ?_
  refine j_iload_n C d_MD_order_140 rfl 1 rfl ?_
  refine j_iconst C d_MD_order_141 ic_4 ?_
  refine j_icmp_ne C d_MD_order_142 (tgt := 149) (by decide) (fun c142 => ?_) (fun c142 => ?_)
  · have h := h.1 c142
    refine j_iconst C d_MD_order_149 ic_0 ?_
    refine j_lv [0] rfl ?_
    exact k_MD_order_150 C hr hE h0 h0 (0 : Int32) I g_h0 g_h0 h
  · have h := h.2 c142
    refine j_iconst C d_MD_order_145 ic_1 ?_
    refine j_goto C d_MD_order_146 (tgt := 150) (by decide) ?_
    refine j_lv [0] rfl ?_
    exact k_MD_order_150 C hr hE h0 h0 (1 : Int32) I g_h0 g_h0 h
def MD_order_158b (h0 : Nat) (v2 : Int32) (I : jM) (K : Int32 → jM → Prop) (X158 : Int32 × jM → Prop) : Prop :=
  ((((I h0 0) - (1 : Int32)) ≤ ((2 : Int32) * v2) → MD_order_216 h0 I K) ∧ (¬ ((I h0 0) - (1 : Int32)) ≤ ((2 : Int32) * v2) → (vp_in v2 24 ∧ (∀ v3_1 : Int32, v3_1 = (I (jr h0 4) v2.toNatClampNeg) → (vp_in (((I h0 0) - (1 : Int32)) - v2) 24 ∧ (vp_in v2 24 ∧ (∀ I_2 : jM, I_2 = jwr I (jr h0 4) v2.toNatClampNeg (I (jr h0 4) (((I h0 0) - (1 : Int32)) - v2).toNatClampNeg) → (vp_in (((I_2 h0 0) - (1 : Int32)) - v2) 24 ∧ (∀ I_3 : jM, I_3 = jwr I_2 (jr h0 4) (((I_2 h0 0) - (1 : Int32)) - v2).toNatClampNeg v3_1 → X158 ((v2 + 1), I_3))))))))))
def MD_order_158 (h0 : Nat) (v2 : Int32) (I : jM) (K : Int32 → jM → Prop) : Prop :=
  lp (fun (X158 : Int32 × jM → Prop) (s : Int32 × jM) => MD_order_158b h0 s.1 s.2 K X158) (v2, I)
set_option maxRecDepth 100000 in
set_option maxHeartbeats 4000000 in
theorem kb_MD_order_158 {Z : jZ} {E : jE} (C : jC Z E prog_14_method_25_code 4 "OutOrderModel" 4 106) (hr : (jZh Z).sig.returnType = (some .int)) (hE : E.2.2.2 = jLM)  (h0 : Nat) (v2 : Int32) (I : jM) (g_h0 : jOB E 11 h0) {K : Int32 → jM → Prop} {X158 : Int32 × jM → Prop} (hX158 : ∀ s : Int32 × jM, X158 s → jJ Z E 4 (jQi Z E K) 158 [(0, .ref (E.2.2.1 h0)), (2, .int s.1)] [] s.2) (h : MD_order_158b h0 v2 I K X158) : jJ Z E 4 (jQi Z E K) 158 [(0, .ref (E.2.2.1 h0)), (2, .int v2)] [] I := by
  unfold MD_order_158b at h
  refine j_iconst C d_MD_order_158 ic_2 ?_
  refine j_iload_n C d_MD_order_159 rfl 1 rfl ?_
  refine j_imul C d_MD_order_160 ?_
  refine j_aload_n C d_MD_order_161 rfl 0 rfl ?_
  refine fg_MD_7 C g_h0 d_MD_order_162 ?_
  refine j_iconst C d_MD_order_165 ic_1 ?_
  refine j_isub C d_MD_order_166 ?_
  refine j_icmp_ge C d_MD_order_167 (tgt := 216) (by decide) (fun c167 => ?_) (fun c167 => ?_)
  · have h := h.1 c167
    refine j_lv [0] rfl ?_
    exact k_MD_order_216 C hr hE h0 I g_h0 h
  · have h := h.2 c167
    refine j_aload_n C d_MD_order_170 rfl 0 rfl ?_
    refine fg_MD_24 C g_h0 d_MD_order_171 ?_
    refine j_iload_n C d_MD_order_174 rfl 1 rfl ?_
    obtain ⟨hi, h⟩ := h
    refine j_iaload C (sh_MD_4 hE g_h0) hi d_MD_order_175 ?_
    refine j_topi (fun v3_1 ev3_1 => ?_)
    have h := h v3_1 ev3_1
    refine j_istore_n C d_MD_order_176 rfl (by decide) (lv' := [(3, .int v3_1), (0, .ref (E.2.2.1 h0)), (2, .int v2)]) rfl ?_
    refine j_aload_n C d_MD_order_177 rfl 1 rfl ?_
    refine fg_MD_24 C g_h0 d_MD_order_178 ?_
    refine j_iload_n C d_MD_order_181 rfl 2 rfl ?_
    refine j_aload_n C d_MD_order_182 rfl 1 rfl ?_
    refine fg_MD_24 C g_h0 d_MD_order_183 ?_
    refine j_aload_n C d_MD_order_186 rfl 1 rfl ?_
    refine fg_MD_7 C g_h0 d_MD_order_187 ?_
    refine j_iconst C d_MD_order_190 ic_1 ?_
    refine j_isub C d_MD_order_191 ?_
    refine j_iload_n C d_MD_order_192 rfl 2 rfl ?_
    refine j_isub C d_MD_order_193 ?_
    obtain ⟨hi, h⟩ := h
    refine j_iaload C (sh_MD_4 hE g_h0) hi d_MD_order_194 ?_
    obtain ⟨hi, h⟩ := h
    refine j_iastore C (sh_MD_4 hE g_h0) hi d_MD_order_195 ?_
    have h := h _ rfl
    generalize eI_2 : (jwr I (jr h0 4) v2.toNatClampNeg (I (jr h0 4) (((I h0 0) - (1 : Int32)) - v2).toNatClampNeg) : jM) = I_2 at h ⊢
    refine j_aload_n C d_MD_order_196 rfl 1 rfl ?_
    refine fg_MD_24 C g_h0 d_MD_order_197 ?_
    refine j_aload_n C d_MD_order_200 rfl 1 rfl ?_
    refine fg_MD_7 C g_h0 d_MD_order_201 ?_
    refine j_iconst C d_MD_order_204 ic_1 ?_
    refine j_isub C d_MD_order_205 ?_
    refine j_iload_n C d_MD_order_206 rfl 2 rfl ?_
    refine j_isub C d_MD_order_207 ?_
    refine j_iload_n C d_MD_order_208 rfl 0 rfl ?_
    obtain ⟨hi, h⟩ := h
    refine j_iastore C (sh_MD_4 hE g_h0) hi d_MD_order_209 ?_
    have h := h _ rfl
    generalize eI_3 : (jwr I_2 (jr h0 4) (((I_2 h0 0) - (1 : Int32)) - v2).toNatClampNeg v3_1 : jM) = I_3 at h ⊢
    refine j_iinc C d_MD_order_210 2 rfl (v := (v2 + 1)) rfl (by decide) (lv' := [(2, .int (v2 + 1)), (3, .int v3_1), (0, .ref (E.2.2.1 h0))]) rfl ?_
    refine j_goto C d_MD_order_213 (tgt := 158) (by decide) ?_
    refine j_lv [2, 0] rfl ?_
    exact hX158 ((v2 + 1), I_3) h
theorem k_MD_order_158 {Z : jZ} {E : jE} (C : jC Z E prog_14_method_25_code 4 "OutOrderModel" 4 106) (hr : (jZh Z).sig.returnType = (some .int)) (hE : E.2.2.2 = jLM)  (h0 : Nat) (v2 : Int32) (I : jM) (g_h0 : jOB E 11 h0) {K : Int32 → jM → Prop} (h : MD_order_158 h0 v2 I K) : jJ Z E 4 (jQi Z E K) 158 [(0, .ref (E.2.2.1 h0)), (2, .int v2)] [] I := by
  unfold MD_order_158 at h
  exact h (fun s => jJ Z E 4 (jQi Z E K) 158 [(0, .ref (E.2.2.1 h0)), (2, .int s.1)] [] s.2) (fun s hs => kb_MD_order_158 C hr hE h0 s.1 s.2 g_h0 (fun s2 h2 => h2) hs)
def MD_order_65 (h0 : Nat) (v1 : Int32) (I : jM) (K : Int32 → jM → Prop) : Prop :=
  MD_notWorked h0 I (fun I_2 => ((v1 = 0 → MD_byNumbers h0 I_2 (fun I_4 => MD_order_216 h0 I_4 K)) ∧ (v1 = 1 → MD_order_115 h0 v1 I_2 K) ∧ (v1 = 2 → MD_order_115 h0 v1 I_2 K) ∧ (v1 = 3 → MD_bySearch h0 I_2 (fun I_6 => MD_order_216 h0 I_6 K)) ∧ (v1 = 4 → MD_order_139 h0 v1 I_2 K) ∧ (v1 = 5 → MD_order_139 h0 v1 I_2 K) ∧ (¬ v1 = 0 → ¬ v1 = 1 → ¬ v1 = 2 → ¬ v1 = 3 → ¬ v1 = 4 → ¬ v1 = 5 → MD_order_158 h0 (0 : Int32) I_2 K)))
set_option maxRecDepth 100000 in
set_option maxHeartbeats 4000000 in
theorem k_MD_order_65 {Z : jZ} {E : jE} (C : jC Z E prog_14_method_25_code 4 "OutOrderModel" 4 106) (hr : (jZh Z).sig.returnType = (some .int)) (hE : E.2.2.2 = jLM)  (h0 : Nat) (v1 : Int32) (I : jM) (g_h0 : jOB E 11 h0) {K : Int32 → jM → Prop} (h : MD_order_65 h0 v1 I K) : jJ Z E 4 (jQi Z E K) 65 [(0, .ref (E.2.2.1 h0)), (1, .int v1)] [] I := by
  unfold MD_order_65 at h
  refine j_aload_n C d_MD_order_65 rfl 0 rfl ?_
  refine j_callVv (As := []) C jcl_MD cw_MD_83 w_813 ws_24 g_h0 rfl rfl (by decide) (by decide) (Nat.le_of_ble_eq_true rfl) d_MD_order_66 (s_MD_notWorked C.ok g_h0 h) (fun I_2 h => ?_)
  refine j_iload_n C d_MD_order_69 rfl 1 rfl ?_
  by_cases c70_0 : v1 = 0
  · have h := h.1 c70_0
    refine j_tableIn C d_MD_order_70 (off := 38) (tgt := 108) (by rw [c70_0]; decide) (by rw [c70_0]; decide) (by rw [c70_0]; rfl) (by decide) ?_
    refine j_aload_n C d_MD_order_108 rfl 0 rfl ?_
    refine j_callVv (As := []) C jcl_MD cw_MD_133 w_856 ws_29 g_h0 rfl rfl (by decide) (by decide) (Nat.le_of_ble_eq_true rfl) d_MD_order_109 (s_MD_byNumbers C.ok hE g_h0 h) (fun I_4 h => ?_)
    refine j_goto C d_MD_order_112 (tgt := 216) (by decide) ?_
    refine j_lv [0] rfl ?_
    exact k_MD_order_216 C hr hE h0 I_4 g_h0 h
  by_cases c70_1 : v1 = 1
  · have h := h.2.1 c70_1
    refine j_tableIn C d_MD_order_70 (off := 45) (tgt := 115) (by rw [c70_1]; decide) (by rw [c70_1]; decide) (by rw [c70_1]; rfl) (by decide) ?_
    refine j_lv [0, 1] rfl ?_
    exact k_MD_order_115 C hr hE h0 v1 I_2 g_h0 h
  by_cases c70_2 : v1 = 2
  · have h := h.2.2.1 c70_2
    refine j_tableIn C d_MD_order_70 (off := 45) (tgt := 115) (by rw [c70_2]; decide) (by rw [c70_2]; decide) (by rw [c70_2]; rfl) (by decide) ?_
    refine j_lv [0, 1] rfl ?_
    exact k_MD_order_115 C hr hE h0 v1 I_2 g_h0 h
  by_cases c70_3 : v1 = 3
  · have h := h.2.2.2.1 c70_3
    refine j_tableIn C d_MD_order_70 (off := 62) (tgt := 132) (by rw [c70_3]; decide) (by rw [c70_3]; decide) (by rw [c70_3]; rfl) (by decide) ?_
    refine j_aload_n C d_MD_order_132 rfl 0 rfl ?_
    refine j_callVv (As := []) C jcl_MD cw_MD_139 w_873 ws_31 g_h0 rfl rfl (by decide) (by decide) (Nat.le_of_ble_eq_true rfl) d_MD_order_133 (s_MD_bySearch C.ok hE g_h0 h) (fun I_6 h => ?_)
    refine j_goto C d_MD_order_136 (tgt := 216) (by decide) ?_
    refine j_lv [0] rfl ?_
    exact k_MD_order_216 C hr hE h0 I_6 g_h0 h
  by_cases c70_4 : v1 = 4
  · have h := h.2.2.2.2.1 c70_4
    refine j_tableIn C d_MD_order_70 (off := 69) (tgt := 139) (by rw [c70_4]; decide) (by rw [c70_4]; decide) (by rw [c70_4]; rfl) (by decide) ?_
    refine j_lv [0, 1] rfl ?_
    exact k_MD_order_139 C hr hE h0 v1 I_2 g_h0 h
  by_cases c70_5 : v1 = 5
  · have h := h.2.2.2.2.2.1 c70_5
    refine j_tableIn C d_MD_order_70 (off := 69) (tgt := 139) (by rw [c70_5]; decide) (by rw [c70_5]; decide) (by rw [c70_5]; rfl) (by decide) ?_
    refine j_lv [0, 1] rfl ?_
    exact k_MD_order_139 C hr hE h0 v1 I_2 g_h0 h
  have h := h.2.2.2.2.2.2 c70_0 c70_1 c70_2 c70_3 c70_4 c70_5
  refine j_tableOut C d_MD_order_70 (tgt := 156) (by have n0 := sw_ne (n := 0) (by decide) c70_0; have n1 := sw_ne (n := 1) (by decide) c70_1; have n2 := sw_ne (n := 2) (by decide) c70_2; have n3 := sw_ne (n := 3) (by decide) c70_3; have n4 := sw_ne (n := 4) (by decide) c70_4; have n5 := sw_ne (n := 5) (by decide) c70_5; omega) (by decide) ?_
  refine j_iconst C d_MD_order_156 ic_0 ?_
  refine j_istore_n C d_MD_order_157 rfl (by decide) (lv' := [(2, .int (0 : Int32)), (0, .ref (E.2.2.1 h0)), (1, .int v1)]) rfl ?_
  refine j_lv [1, 0] rfl ?_
  exact k_MD_order_158 C hr hE h0 (0 : Int32) I_2 g_h0 h
def MD_order_40 (h0 : Nat) (v1 : Int32) (I : jM) (K : Int32 → jM → Prop) : Prop :=
  MD_in v1 (4 : Int32) (5 : Int32) I (fun r_1 => ((r_1 = 0 → MD_order_65 h0 v1 I K) ∧ (¬ r_1 = 0 → (((I h0 0) ≤ (12 : Int32) → MD_order_65 h0 v1 I K) ∧ (¬ (I h0 0) ≤ (12 : Int32) → MD_refuse h0 (-6 : Int32) I (fun r_2 I_3 => K r_2 I_3))))))
set_option maxRecDepth 100000 in
set_option maxHeartbeats 4000000 in
theorem k_MD_order_40 {Z : jZ} {E : jE} (C : jC Z E prog_14_method_25_code 4 "OutOrderModel" 4 106) (hr : (jZh Z).sig.returnType = (some .int)) (hE : E.2.2.2 = jLM)  (h0 : Nat) (v1 : Int32) (I : jM) (g_h0 : jOB E 11 h0) {K : Int32 → jM → Prop} (h : MD_order_40 h0 v1 I K) : jJ Z E 4 (jQi Z E K) 40 [(0, .ref (E.2.2.1 h0)), (1, .int v1)] [] I := by
  unfold MD_order_40 at h
  refine j_iload_n C d_MD_order_40 rfl 1 rfl ?_
  refine j_iconst C d_MD_order_41 ic_4 ?_
  refine j_iconst C d_MD_order_42 ic_5 ?_
  refine j_callSi (As := [.int v1, .int (4 : Int32), .int (5 : Int32)]) C cw_MD_75 w_832 rfl rfl (by decide) (by decide) (Nat.le_of_ble_eq_true rfl) d_MD_order_43 (s_MD_in C.ok  h) (fun r_1 I2 h => ?_)
  obtain ⟨rfl, h⟩ := h
  refine j_if_eq C d_MD_order_46 (tgt := 65) (by decide) (fun c46 => ?_) (fun c46 => ?_)
  · have h := h.1 c46
    refine j_lv [0, 1] rfl ?_
    exact k_MD_order_65 C hr hE h0 v1 I g_h0 h
  · have h := h.2 c46
    refine j_aload_n C d_MD_order_49 rfl 0 rfl ?_
    refine fg_MD_7 C g_h0 d_MD_order_50 ?_
    refine j_bipush C d_MD_order_53 ib_12 ?_
    refine j_icmp_le C d_MD_order_55 (tgt := 65) (by decide) (fun c55 => ?_) (fun c55 => ?_)
    · have h := h.1 c55
      refine j_lv [0, 1] rfl ?_
      exact k_MD_order_65 C hr hE h0 v1 I g_h0 h
    · have h := h.2 c55
      refine j_aload_n C d_MD_order_58 rfl 0 rfl ?_
      refine j_bipush C d_MD_order_59 ib_m6 ?_
      refine j_callVi (As := [.int (-6 : Int32)]) C jcl_MD cw_MD_79 w_809 ws_23 g_h0 rfl rfl (by decide) (by decide) (Nat.le_of_ble_eq_true rfl) d_MD_order_61 (s_MD_refuse C.ok hE g_h0 h) (fun r_2 I_3 h => ?_)
      exact j_iret C hr d_MD_order_64 h
/-- OutOrderModel.order(I)I -/
def MD_order (h0 : Nat) (v1 : Int32) (I : jM) (K : Int32 → jM → Prop) : Prop :=
  MD_in v1 (0 : Int32) (6 : Int32) I (fun r_1 => ((¬ r_1 = 0 → MD_in v1 (3 : Int32) (5 : Int32) I (fun r_2 => ((r_2 = 0 → MD_order_40 h0 v1 I K) ∧ (¬ r_2 = 0 → MD_someHeld h0 I (fun r_3 => ((r_3 = 0 → MD_order_40 h0 v1 I K) ∧ (¬ r_3 = 0 → MD_refuse h0 (-5 : Int32) I (fun r_4 I_5 => K r_4 I_5)))))))) ∧ (r_1 = 0 → MD_refuse h0 (-2 : Int32) I (fun r_6 I_7 => K r_6 I_7))))
set_option maxRecDepth 100000 in
set_option maxHeartbeats 4000000 in
theorem s_MD_order {l : Launch} {E : jE} (ok : jOK E) (hE : E.2.2.2 = jLM) {h0 : Nat} {v1 : Int32} (g_h0 : jOB E 11 h0) {I : jM} {K : Int32 → jM → Prop} (h : MD_order h0 v1 I K) : jSi l E ⟨"OutOrderModel", "order", "(I)I"⟩ prog_14_method_25_code 4 (some .int) 4 106 [.ref (E.2.2.1 h0), .int v1] I K := by
  refine jS_ofF (own := "OutOrderModel") (by decide +kernel) rfl ok (Nat.le_of_ble_eq_true rfl) (fun Z _ C hr => ?_)
  show jJ Z E 4 (jQi Z E K) 0 [(0, .ref (E.2.2.1 h0)), (1, .int v1)] [] I
  unfold MD_order at h
  refine j_iload_n C d_MD_order_0 rfl 1 rfl ?_
  refine j_iconst C d_MD_order_1 ic_0 ?_
  refine j_bipush C d_MD_order_2 ib_6 ?_
  refine j_callSi (As := [.int v1, .int (0 : Int32), .int (6 : Int32)]) C cw_MD_75 w_832 rfl rfl (by decide) (by decide) (Nat.le_of_ble_eq_true rfl) d_MD_order_4 (s_MD_in C.ok  h) (fun r_1 I2 h => ?_)
  obtain ⟨rfl, h⟩ := h
  refine j_if_ne C d_MD_order_7 (tgt := 17) (by decide) (fun c7 => ?_) (fun c7 => ?_)
  · have h := h.1 c7
    refine j_iload_n C d_MD_order_17 rfl 1 rfl ?_
    refine j_iconst C d_MD_order_18 ic_3 ?_
    refine j_iconst C d_MD_order_19 ic_5 ?_
    refine j_callSi (As := [.int v1, .int (3 : Int32), .int (5 : Int32)]) C cw_MD_75 w_832 rfl rfl (by decide) (by decide) (Nat.le_of_ble_eq_true rfl) d_MD_order_20 (s_MD_in C.ok  h) (fun r_2 I2 h => ?_)
    obtain ⟨rfl, h⟩ := h
    refine j_if_eq C d_MD_order_23 (tgt := 40) (by decide) (fun c23 => ?_) (fun c23 => ?_)
    · have h := h.1 c23
      refine j_lv [0, 1] rfl ?_
      exact k_MD_order_40 C hr hE h0 v1 I g_h0 h
    · have h := h.2 c23
      refine j_aload_n C d_MD_order_26 rfl 0 rfl ?_
      refine j_callVi (As := []) C jcl_MD cw_MD_129 w_852 ws_28 g_h0 rfl rfl (by decide) (by decide) (Nat.le_of_ble_eq_true rfl) d_MD_order_27 (s_MD_someHeld C.ok hE g_h0 h) (fun r_3 I2 h => ?_)
      obtain ⟨rfl, h⟩ := h
      refine j_if_eq C d_MD_order_30 (tgt := 40) (by decide) (fun c30 => ?_) (fun c30 => ?_)
      · have h := h.1 c30
        refine j_lv [0, 1] rfl ?_
        exact k_MD_order_40 C hr hE h0 v1 I g_h0 h
      · have h := h.2 c30
        refine j_aload_n C d_MD_order_33 rfl 0 rfl ?_
        refine j_bipush C d_MD_order_34 ib_m5 ?_
        refine j_callVi (As := [.int (-5 : Int32)]) C jcl_MD cw_MD_79 w_809 ws_23 g_h0 rfl rfl (by decide) (by decide) (Nat.le_of_ble_eq_true rfl) d_MD_order_36 (s_MD_refuse C.ok hE g_h0 h) (fun r_4 I_5 h => ?_)
        exact j_iret C hr d_MD_order_39 h
  · have h := h.2 c7
    refine j_aload_n C d_MD_order_10 rfl 0 rfl ?_
    refine j_bipush C d_MD_order_11 ib_m2 ?_
    refine j_callVi (As := [.int (-2 : Int32)]) C jcl_MD cw_MD_79 w_809 ws_23 g_h0 rfl rfl (by decide) (by decide) (Nat.le_of_ble_eq_true rfl) d_MD_order_13 (s_MD_refuse C.ok hE g_h0 h) (fun r_6 I_7 h => ?_)
    exact j_iret C hr d_MD_order_16 h
theorem d_MD_out_0 : decode prog_14_method_43_code 0 = .ok (.aload_n 0, 1) := by decide +kernel
theorem d_MD_out_1 : decode prog_14_method_43_code 1 = .ok (.iload_n 1, 1) := by decide +kernel
theorem d_MD_out_2 : decode prog_14_method_43_code 2 = .ok (.invokevirtual 167, 3) := by decide +kernel
theorem d_MD_out_5 : decode prog_14_method_43_code 5 = .ok (.istore_n 2, 1) := by decide +kernel
theorem d_MD_out_6 : decode prog_14_method_43_code 6 = .ok (.iload_n 2, 1) := by decide +kernel
theorem d_MD_out_7 : decode prog_14_method_43_code 7 = .ok (.ifCond .ge 9, 3) := by decide +kernel
theorem d_MD_out_10 : decode prog_14_method_43_code 10 = .ok (.aload_n 0, 1) := by decide +kernel
theorem d_MD_out_11 : decode prog_14_method_43_code 11 = .ok (.iload_n 2, 1) := by decide +kernel
theorem d_MD_out_12 : decode prog_14_method_43_code 12 = .ok (.invokevirtual 79, 3) := by decide +kernel
theorem d_MD_out_15 : decode prog_14_method_43_code 15 = .ok (.ireturn, 1) := by decide +kernel
theorem d_MD_out_16 : decode prog_14_method_43_code 16 = .ok (.iconst 0, 1) := by decide +kernel
theorem d_MD_out_17 : decode prog_14_method_43_code 17 = .ok (.istore_n 3, 1) := by decide +kernel
theorem d_MD_out_18 : decode prog_14_method_43_code 18 = .ok (.iload_n 3, 1) := by decide +kernel
theorem d_MD_out_19 : decode prog_14_method_43_code 19 = .ok (.aload_n 0, 1) := by decide +kernel
theorem d_MD_out_20 : decode prog_14_method_43_code 20 = .ok (.getfield 7, 3) := by decide +kernel
theorem d_MD_out_23 : decode prog_14_method_43_code 23 = .ok (.if_icmp .ge 29, 3) := by decide +kernel
theorem d_MD_out_26 : decode prog_14_method_43_code 26 = .ok (.aload_n 0, 1) := by decide +kernel
theorem d_MD_out_27 : decode prog_14_method_43_code 27 = .ok (.getfield 54, 3) := by decide +kernel
theorem d_MD_out_30 : decode prog_14_method_43_code 30 = .ok (.bipush 24, 2) := by decide +kernel
theorem d_MD_out_32 : decode prog_14_method_43_code 32 = .ok (.aload_n 0, 1) := by decide +kernel
theorem d_MD_out_33 : decode prog_14_method_43_code 33 = .ok (.getfield 161, 3) := by decide +kernel
theorem d_MD_out_36 : decode prog_14_method_43_code 36 = .ok (.imul, 1) := by decide +kernel
theorem d_MD_out_37 : decode prog_14_method_43_code 37 = .ok (.iload_n 3, 1) := by decide +kernel
theorem d_MD_out_38 : decode prog_14_method_43_code 38 = .ok (.iadd, 1) := by decide +kernel
theorem d_MD_out_39 : decode prog_14_method_43_code 39 = .ok (.aload_n 0, 1) := by decide +kernel
theorem d_MD_out_40 : decode prog_14_method_43_code 40 = .ok (.getfield 57, 3) := by decide +kernel
theorem d_MD_out_43 : decode prog_14_method_43_code 43 = .ok (.iload_n 3, 1) := by decide +kernel
theorem d_MD_out_44 : decode prog_14_method_43_code 44 = .ok (.iaload, 1) := by decide +kernel
theorem d_MD_out_45 : decode prog_14_method_43_code 45 = .ok (.iastore, 1) := by decide +kernel
theorem d_MD_out_46 : decode prog_14_method_43_code 46 = .ok (.iinc 3 1, 3) := by decide +kernel
theorem d_MD_out_49 : decode prog_14_method_43_code 49 = .ok (.goto (-31), 3) := by decide +kernel
theorem d_MD_out_52 : decode prog_14_method_43_code 52 = .ok (.aload_n 0, 1) := by decide +kernel
theorem d_MD_out_53 : decode prog_14_method_43_code 53 = .ok (.iload_n 1, 1) := by decide +kernel
theorem d_MD_out_54 : decode prog_14_method_43_code 54 = .ok (.invokevirtual 170, 3) := by decide +kernel
theorem d_MD_out_57 : decode prog_14_method_43_code 57 = .ok (.istore_n 3, 1) := by decide +kernel
theorem d_MD_out_58 : decode prog_14_method_43_code 58 = .ok (.aload_n 0, 1) := by decide +kernel
theorem d_MD_out_59 : decode prog_14_method_43_code 59 = .ok (.getfield 57, 3) := by decide +kernel
theorem d_MD_out_62 : decode prog_14_method_43_code 62 = .ok (.iload_n 3, 1) := by decide +kernel
theorem d_MD_out_63 : decode prog_14_method_43_code 63 = .ok (.invokestatic 110, 3) := by decide +kernel
theorem d_MD_out_66 : decode prog_14_method_43_code 66 = .ok (.istore 4, 2) := by decide +kernel
theorem d_MD_out_68 : decode prog_14_method_43_code 68 = .ok (.aload_n 0, 1) := by decide +kernel
theorem d_MD_out_69 : decode prog_14_method_43_code 69 = .ok (.getfield 51, 3) := by decide +kernel
theorem d_MD_out_72 : decode prog_14_method_43_code 72 = .ok (.aload_n 0, 1) := by decide +kernel
theorem d_MD_out_73 : decode prog_14_method_43_code 73 = .ok (.getfield 161, 3) := by decide +kernel
theorem d_MD_out_76 : decode prog_14_method_43_code 76 = .ok (.iload_n 1, 1) := by decide +kernel
theorem d_MD_out_77 : decode prog_14_method_43_code 77 = .ok (.iastore, 1) := by decide +kernel
theorem d_MD_out_78 : decode prog_14_method_43_code 78 = .ok (.aload_n 0, 1) := by decide +kernel
theorem d_MD_out_79 : decode prog_14_method_43_code 79 = .ok (.dup, 1) := by decide +kernel
theorem d_MD_out_80 : decode prog_14_method_43_code 80 = .ok (.getfield 161, 3) := by decide +kernel
theorem d_MD_out_83 : decode prog_14_method_43_code 83 = .ok (.iconst 1, 1) := by decide +kernel
theorem d_MD_out_84 : decode prog_14_method_43_code 84 = .ok (.iadd, 1) := by decide +kernel
theorem d_MD_out_85 : decode prog_14_method_43_code 85 = .ok (.putfield 161, 3) := by decide +kernel
theorem d_MD_out_88 : decode prog_14_method_43_code 88 = .ok (.aload_n 0, 1) := by decide +kernel
theorem d_MD_out_89 : decode prog_14_method_43_code 89 = .ok (.getfield 57, 3) := by decide +kernel
theorem d_MD_out_92 : decode prog_14_method_43_code 92 = .ok (.iload_n 3, 1) := by decide +kernel
theorem d_MD_out_93 : decode prog_14_method_43_code 93 = .ok (.invokestatic 106, 3) := by decide +kernel
theorem d_MD_out_96 : decode prog_14_method_43_code 96 = .ok (.iload 4, 2) := by decide +kernel
theorem d_MD_out_98 : decode prog_14_method_43_code 98 = .ok (.ireturn, 1) := by decide +kernel
def MD_out_18b (h0 : Nat) (v1 : Int32) (v3 : Int32) (I : jM) (K : Int32 → jM → Prop) (X18 : Int32 × jM → Prop) : Prop :=
  (((I h0 0) ≤ v3 → MD_goingAround h0 v1 I (fun r_1 => MD_fillsOf (jr h0 17) r_1 I (fun r_2 => (vp_in (I h0 15) 24 ∧ (∀ I_3 : jM, I_3 = jwr I (jr h0 14) (I h0 15).toNatClampNeg v1 → (∀ I_4 : jM, I_4 = jwr I_3 h0 15 ((I_3 h0 15) + (1 : Int32)) → MD_joinAll (jr h0 17) r_1 I_4 (fun I_6 => K r_2 I_6))))))) ∧ (¬ (I h0 0) ≤ v3 → (vp_in v3 24 ∧ (vp_in (((24 : Int32) * (I h0 15)) + v3) 600 ∧ (∀ I_7 : jM, I_7 = jwr I (jr h0 16) (((24 : Int32) * (I h0 15)) + v3).toNatClampNeg (I (jr h0 17) v3.toNatClampNeg) → X18 ((v3 + 1), I_7))))))
def MD_out_18 (h0 : Nat) (v1 : Int32) (v3 : Int32) (I : jM) (K : Int32 → jM → Prop) : Prop :=
  lp (fun (X18 : Int32 × jM → Prop) (s : Int32 × jM) => MD_out_18b h0 v1 s.1 s.2 K X18) (v3, I)
set_option maxRecDepth 100000 in
set_option maxHeartbeats 4000000 in
theorem kb_MD_out_18 {Z : jZ} {E : jE} (C : jC Z E prog_14_method_43_code 5 "OutOrderModel" 3 64) (hr : (jZh Z).sig.returnType = (some .int)) (hE : E.2.2.2 = jLM)  (h0 : Nat) (v1 : Int32) (v3 : Int32) (I : jM) (g_h0 : jOB E 11 h0) {K : Int32 → jM → Prop} {X18 : Int32 × jM → Prop} (hX18 : ∀ s : Int32 × jM, X18 s → jJ Z E 5 (jQi Z E K) 18 [(0, .ref (E.2.2.1 h0)), (1, .int v1), (3, .int s.1)] [] s.2) (h : MD_out_18b h0 v1 v3 I K X18) : jJ Z E 5 (jQi Z E K) 18 [(0, .ref (E.2.2.1 h0)), (1, .int v1), (3, .int v3)] [] I := by
  unfold MD_out_18b at h
  refine j_iload_n C d_MD_out_18 rfl 2 rfl ?_
  refine j_aload_n C d_MD_out_19 rfl 0 rfl ?_
  refine fg_MD_7 C g_h0 d_MD_out_20 ?_
  refine j_icmp_ge C d_MD_out_23 (tgt := 52) (by decide) (fun c23 => ?_) (fun c23 => ?_)
  · have h := h.1 c23
    refine j_aload_n C d_MD_out_52 rfl 0 rfl ?_
    refine j_iload_n C d_MD_out_53 rfl 1 rfl ?_
    refine j_callVi (As := [.int v1]) C jcl_MD cw_MD_170 w_967 ws_43 g_h0 rfl rfl (by decide) (by decide) (Nat.le_of_ble_eq_true rfl) d_MD_out_54 (s_MD_goingAround C.ok hE g_h0 h) (fun r_1 I2 h => ?_)
    obtain ⟨rfl, h⟩ := h
    refine j_istore_n C d_MD_out_57 rfl (by decide) (lv' := [(3, .int r_1), (0, .ref (E.2.2.1 h0)), (1, .int v1)]) rfl ?_
    refine j_aload_n C d_MD_out_58 rfl 1 rfl ?_
    refine fg_MD_57 C g_h0 d_MD_out_59 ?_
    refine j_iload_n C d_MD_out_62 rfl 0 rfl ?_
    refine j_callSi (As := [.ref (E.2.2.1 (jr h0 17)), .int r_1]) C cw_MD_110 w_863 rfl rfl (by decide) (by decide) (Nat.le_of_ble_eq_true rfl) d_MD_out_63 (s_MD_fillsOf C.ok (((sh_MD_17 hE g_h0)).self) h) (fun r_2 I2 h => ?_)
    obtain ⟨rfl, h⟩ := h
    refine j_istore C d_MD_out_66 (by decide) (lv' := [(4, .int r_2), (3, .int r_1), (0, .ref (E.2.2.1 h0)), (1, .int v1)]) rfl ?_
    refine j_aload_n C d_MD_out_68 rfl 2 rfl ?_
    refine fg_MD_51 C g_h0 d_MD_out_69 ?_
    refine j_aload_n C d_MD_out_72 rfl 2 rfl ?_
    refine fg_MD_161 C g_h0 d_MD_out_73 ?_
    refine j_iload_n C d_MD_out_76 rfl 3 rfl ?_
    obtain ⟨hi, h⟩ := h
    refine j_iastore C (sh_MD_14 hE g_h0) hi d_MD_out_77 ?_
    have h := h _ rfl
    generalize eI_3 : (jwr I (jr h0 14) (I h0 15).toNatClampNeg v1 : jM) = I_3 at h ⊢
    refine j_aload_n C d_MD_out_78 rfl 2 rfl ?_
    refine j_dup C d_MD_out_79 rfl ?_
    refine fg_MD_161 C g_h0 d_MD_out_80 ?_
    refine j_iconst C d_MD_out_83 ic_1 ?_
    refine j_iadd C d_MD_out_84 ?_
    refine fp_MD_161 C g_h0 d_MD_out_85 ?_
    have h := h _ rfl
    generalize eI_4 : (jwr I_3 h0 15 ((I_3 h0 15) + (1 : Int32)) : jM) = I_4 at h ⊢
    refine j_aload_n C d_MD_out_88 rfl 2 rfl ?_
    refine fg_MD_57 C g_h0 d_MD_out_89 ?_
    refine j_iload_n C d_MD_out_92 rfl 1 rfl ?_
    refine j_callSv (As := [.ref (E.2.2.1 (jr h0 17)), .int r_1]) C cw_MD_106 w_869 rfl rfl (by decide) (by decide) (Nat.le_of_ble_eq_true rfl) d_MD_out_93 (s_MD_joinAll C.ok (((sh_MD_17 hE g_h0)).self) h) (fun I_6 h => ?_)
    refine j_iload C d_MD_out_96 0 rfl ?_
    exact j_iret C hr d_MD_out_98 h
  · have h := h.2 c23
    refine j_aload_n C d_MD_out_26 rfl 0 rfl ?_
    refine fg_MD_54 C g_h0 d_MD_out_27 ?_
    refine j_bipush C d_MD_out_30 ib_24 ?_
    refine j_aload_n C d_MD_out_32 rfl 0 rfl ?_
    refine fg_MD_161 C g_h0 d_MD_out_33 ?_
    refine j_imul C d_MD_out_36 ?_
    refine j_iload_n C d_MD_out_37 rfl 2 rfl ?_
    refine j_iadd C d_MD_out_38 ?_
    refine j_aload_n C d_MD_out_39 rfl 0 rfl ?_
    refine fg_MD_57 C g_h0 d_MD_out_40 ?_
    refine j_iload_n C d_MD_out_43 rfl 2 rfl ?_
    obtain ⟨hi, h⟩ := h
    refine j_iaload C (sh_MD_17 hE g_h0) hi d_MD_out_44 ?_
    obtain ⟨hi, h⟩ := h
    refine j_iastore C (sh_MD_16 hE g_h0) hi d_MD_out_45 ?_
    have h := h _ rfl
    generalize eI_7 : (jwr I (jr h0 16) (((24 : Int32) * (I h0 15)) + v3).toNatClampNeg (I (jr h0 17) v3.toNatClampNeg) : jM) = I_7 at h ⊢
    refine j_iinc C d_MD_out_46 2 rfl (v := (v3 + 1)) rfl (by decide) (lv' := [(3, .int (v3 + 1)), (0, .ref (E.2.2.1 h0)), (1, .int v1)]) rfl ?_
    refine j_goto C d_MD_out_49 (tgt := 18) (by decide) ?_
    refine j_lv [1, 2, 0] rfl ?_
    exact hX18 ((v3 + 1), I_7) h
theorem k_MD_out_18 {Z : jZ} {E : jE} (C : jC Z E prog_14_method_43_code 5 "OutOrderModel" 3 64) (hr : (jZh Z).sig.returnType = (some .int)) (hE : E.2.2.2 = jLM)  (h0 : Nat) (v1 : Int32) (v3 : Int32) (I : jM) (g_h0 : jOB E 11 h0) {K : Int32 → jM → Prop} (h : MD_out_18 h0 v1 v3 I K) : jJ Z E 5 (jQi Z E K) 18 [(0, .ref (E.2.2.1 h0)), (1, .int v1), (3, .int v3)] [] I := by
  unfold MD_out_18 at h
  exact h (fun s => jJ Z E 5 (jQi Z E K) 18 [(0, .ref (E.2.2.1 h0)), (1, .int v1), (3, .int s.1)] [] s.2) (fun s hs => kb_MD_out_18 C hr hE h0 v1 s.1 s.2 g_h0 (fun s2 h2 => h2) hs)
/-- OutOrderModel.out(I)I -/
def MD_out (h0 : Nat) (v1 : Int32) (I : jM) (K : Int32 → jM → Prop) : Prop :=
  MD_goingLacks h0 v1 I (fun r_1 => ((0 ≤ r_1 → MD_out_18 h0 v1 (0 : Int32) I K) ∧ (¬ 0 ≤ r_1 → MD_refuse h0 r_1 I (fun r_2 I_3 => K r_2 I_3))))
set_option maxRecDepth 100000 in
set_option maxHeartbeats 4000000 in
theorem s_MD_out {l : Launch} {E : jE} (ok : jOK E) (hE : E.2.2.2 = jLM) {h0 : Nat} {v1 : Int32} (g_h0 : jOB E 11 h0) {I : jM} {K : Int32 → jM → Prop} (h : MD_out h0 v1 I K) : jSi l E ⟨"OutOrderModel", "out", "(I)I"⟩ prog_14_method_43_code 5 (some .int) 3 64 [.ref (E.2.2.1 h0), .int v1] I K := by
  refine jS_ofF (own := "OutOrderModel") (by decide +kernel) rfl ok (Nat.le_of_ble_eq_true rfl) (fun Z _ C hr => ?_)
  show jJ Z E 5 (jQi Z E K) 0 [(0, .ref (E.2.2.1 h0)), (1, .int v1)] [] I
  unfold MD_out at h
  refine j_aload_n C d_MD_out_0 rfl 0 rfl ?_
  refine j_iload_n C d_MD_out_1 rfl 1 rfl ?_
  refine j_callVi (As := [.int v1]) C jcl_MD cw_MD_167 w_959 ws_41 g_h0 rfl rfl (by decide) (by decide) (Nat.le_of_ble_eq_true rfl) d_MD_out_2 (s_MD_goingLacks C.ok hE g_h0 h) (fun r_1 I2 h => ?_)
  obtain ⟨rfl, h⟩ := h
  refine j_istore_n C d_MD_out_5 rfl (by decide) (lv' := [(2, .int r_1), (0, .ref (E.2.2.1 h0)), (1, .int v1)]) rfl ?_
  refine j_iload_n C d_MD_out_6 rfl 0 rfl ?_
  refine j_if_ge C d_MD_out_7 (tgt := 16) (by decide) (fun c7 => ?_) (fun c7 => ?_)
  · have h := h.1 c7
    refine j_iconst C d_MD_out_16 ic_0 ?_
    refine j_istore_n C d_MD_out_17 rfl (by decide) (lv' := [(3, .int (0 : Int32)), (2, .int r_1), (0, .ref (E.2.2.1 h0)), (1, .int v1)]) rfl ?_
    refine j_lv [2, 3, 0] rfl ?_
    exact k_MD_out_18 C hr hE h0 v1 (0 : Int32) I g_h0 h
  · have h := h.2 c7
    refine j_aload_n C d_MD_out_10 rfl 1 rfl ?_
    refine j_iload_n C d_MD_out_11 rfl 0 rfl ?_
    refine j_callVi (As := [.int r_1]) C jcl_MD cw_MD_79 w_809 ws_23 g_h0 rfl rfl (by decide) (by decide) (Nat.le_of_ble_eq_true rfl) d_MD_out_12 (s_MD_refuse C.ok hE g_h0 h) (fun r_2 I_3 h => ?_)
    exact j_iret C hr d_MD_out_15 h
theorem d_MD_pivot_0 : decode prog_14_method_52_code 0 = .ok (.aload_n 0, 1) := by decide +kernel
theorem d_MD_pivot_1 : decode prog_14_method_52_code 1 = .ok (.iload_n 1, 1) := by decide +kernel
theorem d_MD_pivot_2 : decode prog_14_method_52_code 2 = .ok (.invokevirtual 90, 3) := by decide +kernel
theorem d_MD_pivot_5 : decode prog_14_method_52_code 5 = .ok (.ifCond .ne 9, 3) := by decide +kernel
theorem d_MD_pivot_8 : decode prog_14_method_52_code 8 = .ok (.aload_n 0, 1) := by decide +kernel
theorem d_MD_pivot_9 : decode prog_14_method_52_code 9 = .ok (.iconst (-1), 1) := by decide +kernel
theorem d_MD_pivot_10 : decode prog_14_method_52_code 10 = .ok (.invokevirtual 79, 3) := by decide +kernel
theorem d_MD_pivot_13 : decode prog_14_method_52_code 13 = .ok (.ireturn, 1) := by decide +kernel
theorem d_MD_pivot_14 : decode prog_14_method_52_code 14 = .ok (.iload_n 1, 1) := by decide +kernel
theorem d_MD_pivot_15 : decode prog_14_method_52_code 15 = .ok (.aload_n 0, 1) := by decide +kernel
theorem d_MD_pivot_16 : decode prog_14_method_52_code 16 = .ok (.getfield 60, 3) := by decide +kernel
theorem d_MD_pivot_19 : decode prog_14_method_52_code 19 = .ok (.if_icmp .ne 7, 3) := by decide +kernel
theorem d_MD_pivot_22 : decode prog_14_method_52_code 22 = .ok (.iconst 0, 1) := by decide +kernel
theorem d_MD_pivot_23 : decode prog_14_method_52_code 23 = .ok (.goto 30, 3) := by decide +kernel
theorem d_MD_pivot_26 : decode prog_14_method_52_code 26 = .ok (.aload_n 0, 1) := by decide +kernel
theorem d_MD_pivot_27 : decode prog_14_method_52_code 27 = .ok (.iload_n 1, 1) := by decide +kernel
theorem d_MD_pivot_28 : decode prog_14_method_52_code 28 = .ok (.invokevirtual 185, 3) := by decide +kernel
theorem d_MD_pivot_31 : decode prog_14_method_52_code 31 = .ok (.aload_n 0, 1) := by decide +kernel
theorem d_MD_pivot_32 : decode prog_14_method_52_code 32 = .ok (.getfield 176, 3) := by decide +kernel
theorem d_MD_pivot_35 : decode prog_14_method_52_code 35 = .ok (.if_icmp .ge 12, 3) := by decide +kernel
theorem d_MD_pivot_38 : decode prog_14_method_52_code 38 = .ok (.aload_n 0, 1) := by decide +kernel
theorem d_MD_pivot_39 : decode prog_14_method_52_code 39 = .ok (.getfield 63, 3) := by decide +kernel
theorem d_MD_pivot_42 : decode prog_14_method_52_code 42 = .ok (.iload_n 1, 1) := by decide +kernel
theorem d_MD_pivot_43 : decode prog_14_method_52_code 43 = .ok (.iaload, 1) := by decide +kernel
theorem d_MD_pivot_44 : decode prog_14_method_52_code 44 = .ok (.goto 9, 3) := by decide +kernel
theorem d_MD_pivot_47 : decode prog_14_method_52_code 47 = .ok (.aload_n 0, 1) := by decide +kernel
theorem d_MD_pivot_48 : decode prog_14_method_52_code 48 = .ok (.bipush (-5), 2) := by decide +kernel
theorem d_MD_pivot_50 : decode prog_14_method_52_code 50 = .ok (.invokevirtual 79, 3) := by decide +kernel
theorem d_MD_pivot_53 : decode prog_14_method_52_code 53 = .ok (.ireturn, 1) := by decide +kernel
/-- OutOrderModel.pivot(I)I -/
def MD_pivot (h0 : Nat) (v1 : Int32) (I : jM) (K : Int32 → jM → Prop) : Prop :=
  MD_isUnknown h0 v1 I (fun r_1 => ((¬ r_1 = 0 → ((¬ v1 = (I h0 19) → MD_placeOf h0 v1 I (fun r_2 => (((I h0 18) ≤ r_2 → MD_refuse h0 (-5 : Int32) I (fun r_3 I_4 => K r_3 I_4)) ∧ (¬ (I h0 18) ≤ r_2 → (vp_in v1 24 ∧ K (I (jr h0 20) v1.toNatClampNeg) I))))) ∧ (v1 = (I h0 19) → K (0 : Int32) I))) ∧ (r_1 = 0 → MD_refuse h0 (-1 : Int32) I (fun r_5 I_6 => K r_5 I_6))))
set_option maxRecDepth 100000 in
set_option maxHeartbeats 4000000 in
theorem s_MD_pivot {l : Launch} {E : jE} (ok : jOK E) (hE : E.2.2.2 = jLM) {h0 : Nat} {v1 : Int32} (g_h0 : jOB E 11 h0) {I : jM} {K : Int32 → jM → Prop} (h : MD_pivot h0 v1 I K) : jSi l E ⟨"OutOrderModel", "pivot", "(I)I"⟩ prog_14_method_52_code 2 (some .int) 2 43 [.ref (E.2.2.1 h0), .int v1] I K := by
  refine jS_ofF (own := "OutOrderModel") (by decide +kernel) rfl ok (Nat.le_of_ble_eq_true rfl) (fun Z _ C hr => ?_)
  show jJ Z E 2 (jQi Z E K) 0 [(0, .ref (E.2.2.1 h0)), (1, .int v1)] [] I
  unfold MD_pivot at h
  refine j_aload_n C d_MD_pivot_0 rfl 0 rfl ?_
  refine j_iload_n C d_MD_pivot_1 rfl 1 rfl ?_
  refine j_callVi (As := [.int v1]) C jcl_MD cw_MD_90 w_829 ws_26 g_h0 rfl rfl (by decide) (by decide) (Nat.le_of_ble_eq_true rfl) d_MD_pivot_2 (s_MD_isUnknown C.ok g_h0 h) (fun r_1 I2 h => ?_)
  obtain ⟨rfl, h⟩ := h
  refine j_if_ne C d_MD_pivot_5 (tgt := 14) (by decide) (fun c5 => ?_) (fun c5 => ?_)
  · have h := h.1 c5
    refine j_iload_n C d_MD_pivot_14 rfl 1 rfl ?_
    refine j_aload_n C d_MD_pivot_15 rfl 0 rfl ?_
    refine fg_MD_60 C g_h0 d_MD_pivot_16 ?_
    refine j_icmp_ne C d_MD_pivot_19 (tgt := 26) (by decide) (fun c19 => ?_) (fun c19 => ?_)
    · have h := h.1 c19
      refine j_aload_n C d_MD_pivot_26 rfl 0 rfl ?_
      refine j_iload_n C d_MD_pivot_27 rfl 1 rfl ?_
      refine j_callVi (As := [.int v1]) C jcl_MD cw_MD_185 w_999 ws_47 g_h0 rfl rfl (by decide) (by decide) (Nat.le_of_ble_eq_true rfl) d_MD_pivot_28 (s_MD_placeOf C.ok hE g_h0 h) (fun r_2 I2 h => ?_)
      obtain ⟨rfl, h⟩ := h
      refine j_aload_n C d_MD_pivot_31 rfl 0 rfl ?_
      refine fg_MD_176 C g_h0 d_MD_pivot_32 ?_
      refine j_icmp_ge C d_MD_pivot_35 (tgt := 47) (by decide) (fun c35 => ?_) (fun c35 => ?_)
      · have h := h.1 c35
        refine j_aload_n C d_MD_pivot_47 rfl 0 rfl ?_
        refine j_bipush C d_MD_pivot_48 ib_m5 ?_
        refine j_callVi (As := [.int (-5 : Int32)]) C jcl_MD cw_MD_79 w_809 ws_23 g_h0 rfl rfl (by decide) (by decide) (Nat.le_of_ble_eq_true rfl) d_MD_pivot_50 (s_MD_refuse C.ok hE g_h0 h) (fun r_3 I_4 h => ?_)
        exact j_iret C hr d_MD_pivot_53 h
      · have h := h.2 c35
        refine j_aload_n C d_MD_pivot_38 rfl 0 rfl ?_
        refine fg_MD_63 C g_h0 d_MD_pivot_39 ?_
        refine j_iload_n C d_MD_pivot_42 rfl 1 rfl ?_
        obtain ⟨hi, h⟩ := h
        refine j_iaload C (sh_MD_20 hE g_h0) hi d_MD_pivot_43 ?_
        refine j_goto C d_MD_pivot_44 (tgt := 53) (by decide) ?_
        exact j_iret C hr d_MD_pivot_53 h
    · have h := h.2 c19
      refine j_iconst C d_MD_pivot_22 ic_0 ?_
      refine j_goto C d_MD_pivot_23 (tgt := 53) (by decide) ?_
      exact j_iret C hr d_MD_pivot_53 h
  · have h := h.2 c5
    refine j_aload_n C d_MD_pivot_8 rfl 0 rfl ?_
    refine j_iconst C d_MD_pivot_9 ic_m1 ?_
    refine j_callVi (As := [.int (-1 : Int32)]) C jcl_MD cw_MD_79 w_809 ws_23 g_h0 rfl rfl (by decide) (by decide) (Nat.le_of_ble_eq_true rfl) d_MD_pivot_10 (s_MD_refuse C.ok hE g_h0 h) (fun r_5 I_6 h => ?_)
    exact j_iret C hr d_MD_pivot_13 h
