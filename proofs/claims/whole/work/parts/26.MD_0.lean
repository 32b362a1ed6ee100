theorem d_MD_around_0 : decode prog_14_method_20_code 0 = .ok (.iconst 1, 1) := by decide +kernel
theorem d_MD_around_1 : decode prog_14_method_20_code 1 = .ok (.iload_n 1, 1) := by decide +kernel
theorem d_MD_around_2 : decode prog_14_method_20_code 2 = .ok (.ishl, 1) := by decide +kernel
theorem d_MD_around_3 : decode prog_14_method_20_code 3 = .ok (.istore_n 3, 1) := by decide +kernel
theorem d_MD_around_4 : decode prog_14_method_20_code 4 = .ok (.iconst 0, 1) := by decide +kernel
theorem d_MD_around_5 : decode prog_14_method_20_code 5 = .ok (.istore 4, 2) := by decide +kernel
theorem d_MD_around_7 : decode prog_14_method_20_code 7 = .ok (.iconst 1, 1) := by decide +kernel
theorem d_MD_around_8 : decode prog_14_method_20_code 8 = .ok (.iload_n 1, 1) := by decide +kernel
theorem d_MD_around_9 : decode prog_14_method_20_code 9 = .ok (.ishl, 1) := by decide +kernel
theorem d_MD_around_10 : decode prog_14_method_20_code 10 = .ok (.istore 5, 2) := by decide +kernel
theorem d_MD_around_12 : decode prog_14_method_20_code 12 = .ok (.iload 5, 2) := by decide +kernel
theorem d_MD_around_14 : decode prog_14_method_20_code 14 = .ok (.ifCond .eq 84, 3) := by decide +kernel
theorem d_MD_around_17 : decode prog_14_method_20_code 17 = .ok (.iconst 0, 1) := by decide +kernel
theorem d_MD_around_18 : decode prog_14_method_20_code 18 = .ok (.istore 6, 2) := by decide +kernel
theorem d_MD_around_20 : decode prog_14_method_20_code 20 = .ok (.iconst 0, 1) := by decide +kernel
theorem d_MD_around_21 : decode prog_14_method_20_code 21 = .ok (.istore 7, 2) := by decide +kernel
theorem d_MD_around_23 : decode prog_14_method_20_code 23 = .ok (.iload 7, 2) := by decide +kernel
theorem d_MD_around_25 : decode prog_14_method_20_code 25 = .ok (.aload_n 0, 1) := by decide +kernel
theorem d_MD_around_26 : decode prog_14_method_20_code 26 = .ok (.getfield 7, 3) := by decide +kernel
theorem d_MD_around_29 : decode prog_14_method_20_code 29 = .ok (.if_icmp .ge 36, 3) := by decide +kernel
theorem d_MD_around_32 : decode prog_14_method_20_code 32 = .ok (.iload 6, 2) := by decide +kernel
theorem d_MD_around_34 : decode prog_14_method_20_code 34 = .ok (.iload 5, 2) := by decide +kernel
theorem d_MD_around_36 : decode prog_14_method_20_code 36 = .ok (.iload 7, 2) := by decide +kernel
theorem d_MD_around_38 : decode prog_14_method_20_code 38 = .ok (.ishr, 1) := by decide +kernel
theorem d_MD_around_39 : decode prog_14_method_20_code 39 = .ok (.iconst 1, 1) := by decide +kernel
theorem d_MD_around_40 : decode prog_14_method_20_code 40 = .ok (.iand, 1) := by decide +kernel
theorem d_MD_around_41 : decode prog_14_method_20_code 41 = .ok (.iconst 1, 1) := by decide +kernel
theorem d_MD_around_42 : decode prog_14_method_20_code 42 = .ok (.if_icmp .ne 13, 3) := by decide +kernel
theorem d_MD_around_45 : decode prog_14_method_20_code 45 = .ok (.aload_n 0, 1) := by decide +kernel
theorem d_MD_around_46 : decode prog_14_method_20_code 46 = .ok (.getfield 33, 3) := by decide +kernel
theorem d_MD_around_49 : decode prog_14_method_20_code 49 = .ok (.iload 7, 2) := by decide +kernel
theorem d_MD_around_51 : decode prog_14_method_20_code 51 = .ok (.iaload, 1) := by decide +kernel
theorem d_MD_around_52 : decode prog_14_method_20_code 52 = .ok (.goto 4, 3) := by decide +kernel
theorem d_MD_around_55 : decode prog_14_method_20_code 55 = .ok (.iconst 0, 1) := by decide +kernel
theorem d_MD_around_56 : decode prog_14_method_20_code 56 = .ok (.ior, 1) := by decide +kernel
theorem d_MD_around_57 : decode prog_14_method_20_code 57 = .ok (.istore 6, 2) := by decide +kernel
theorem d_MD_around_59 : decode prog_14_method_20_code 59 = .ok (.iinc 7 1, 3) := by decide +kernel
theorem d_MD_around_62 : decode prog_14_method_20_code 62 = .ok (.goto (-39), 3) := by decide +kernel
theorem d_MD_around_65 : decode prog_14_method_20_code 65 = .ok (.iload 6, 2) := by decide +kernel
theorem d_MD_around_67 : decode prog_14_method_20_code 67 = .ok (.iload_n 3, 1) := by decide +kernel
theorem d_MD_around_68 : decode prog_14_method_20_code 68 = .ok (.iconst (-1), 1) := by decide +kernel
theorem d_MD_around_69 : decode prog_14_method_20_code 69 = .ok (.ixor, 1) := by decide +kernel
theorem d_MD_around_70 : decode prog_14_method_20_code 70 = .ok (.iand, 1) := by decide +kernel
theorem d_MD_around_71 : decode prog_14_method_20_code 71 = .ok (.istore 6, 2) := by decide +kernel
theorem d_MD_around_73 : decode prog_14_method_20_code 73 = .ok (.iload_n 3, 1) := by decide +kernel
theorem d_MD_around_74 : decode prog_14_method_20_code 74 = .ok (.iload 6, 2) := by decide +kernel
theorem d_MD_around_76 : decode prog_14_method_20_code 76 = .ok (.ior, 1) := by decide +kernel
theorem d_MD_around_77 : decode prog_14_method_20_code 77 = .ok (.istore_n 3, 1) := by decide +kernel
theorem d_MD_around_78 : decode prog_14_method_20_code 78 = .ok (.iload 4, 2) := by decide +kernel
theorem d_MD_around_80 : decode prog_14_method_20_code 80 = .ok (.iload 6, 2) := by decide +kernel
theorem d_MD_around_82 : decode prog_14_method_20_code 82 = .ok (.iload_n 2, 1) := by decide +kernel
theorem d_MD_around_83 : decode prog_14_method_20_code 83 = .ok (.iconst (-1), 1) := by decide +kernel
theorem d_MD_around_84 : decode prog_14_method_20_code 84 = .ok (.ixor, 1) := by decide +kernel
theorem d_MD_around_85 : decode prog_14_method_20_code 85 = .ok (.iand, 1) := by decide +kernel
theorem d_MD_around_86 : decode prog_14_method_20_code 86 = .ok (.ior, 1) := by decide +kernel
theorem d_MD_around_87 : decode prog_14_method_20_code 87 = .ok (.istore 4, 2) := by decide +kernel
theorem d_MD_around_89 : decode prog_14_method_20_code 89 = .ok (.iload 6, 2) := by decide +kernel
theorem d_MD_around_91 : decode prog_14_method_20_code 91 = .ok (.iload_n 2, 1) := by decide +kernel
theorem d_MD_around_92 : decode prog_14_method_20_code 92 = .ok (.iand, 1) := by decide +kernel
theorem d_MD_around_93 : decode prog_14_method_20_code 93 = .ok (.istore 5, 2) := by decide +kernel
theorem d_MD_around_95 : decode prog_14_method_20_code 95 = .ok (.goto (-83), 3) := by decide +kernel
theorem d_MD_around_98 : decode prog_14_method_20_code 98 = .ok (.iload 4, 2) := by decide +kernel
theorem d_MD_around_100 : decode prog_14_method_20_code 100 = .ok (.iconst 1, 1) := by decide +kernel
theorem d_MD_around_101 : decode prog_14_method_20_code 101 = .ok (.iload_n 1, 1) := by decide +kernel
theorem d_MD_around_102 : decode prog_14_method_20_code 102 = .ok (.ishl, 1) := by decide +kernel
theorem d_MD_around_103 : decode prog_14_method_20_code 103 = .ok (.iconst (-1), 1) := by decide +kernel
theorem d_MD_around_104 : decode prog_14_method_20_code 104 = .ok (.ixor, 1) := by decide +kernel
theorem d_MD_around_105 : decode prog_14_method_20_code 105 = .ok (.iand, 1) := by decide +kernel
theorem d_MD_around_106 : decode prog_14_method_20_code 106 = .ok (.ireturn, 1) := by decide +kernel
def MD_around_23b (h0 : Nat) (v1 : Int32) (v2 : Int32) (v3 : Int32) (v4 : Int32) (v5 : Int32) (v6 : Int32) (v7 : Int32) (I : jM) (K : Int32 → Prop) (X12 : Int32 × Int32 × Int32 → Prop) (X23 : Int32 × Int32 → Prop) : Prop :=
  (((I h0 0) ≤ v7 → (∀ v6_1 : Int32, v6_1 = (v6 &&& (v3 ^^^ (-1 : Int32))) → (∀ v3_2 : Int32, v3_2 = (v3 ||| v6_1) → (∀ v4_3 : Int32, v4_3 = (v4 ||| (v6_1 &&& (v2 ^^^ (-1 : Int32)))) → (∀ v5_4 : Int32, v5_4 = (v6_1 &&& v2) → X12 (v3_2, v4_3, v5_4)))))) ∧ (¬ (I h0 0) ≤ v7 → ((¬ ((v5 >>> (v7 &&& 31)) &&& (1 : Int32)) = (1 : Int32) → (∀ v6_5 : Int32, v6_5 = (v6 ||| (0 : Int32)) → X23 (v6_5, (v7 + 1)))) ∧ (((v5 >>> (v7 &&& 31)) &&& (1 : Int32)) = (1 : Int32) → (vp_in v7 24 ∧ (∀ v6_6 : Int32, v6_6 = (v6 ||| (I (jr h0 7) v7.toNatClampNeg)) → X23 (v6_6, (v7 + 1))))))))
def MD_around_23 (h0 : Nat) (v1 : Int32) (v2 : Int32) (v3 : Int32) (v4 : Int32) (v5 : Int32) (v6 : Int32) (v7 : Int32) (I : jM) (K : Int32 → Prop) (X12 : Int32 × Int32 × Int32 → Prop) : Prop :=
  lp (fun (X23 : Int32 × Int32 → Prop) (s : Int32 × Int32) => MD_around_23b h0 v1 v2 v3 v4 v5 s.1 s.2 I K X12 X23) (v6, v7)
set_option maxRecDepth 100000 in
set_option maxHeartbeats 4000000 in
theorem kb_MD_around_23 {Z : jZ} {E : jE} (C : jC Z E prog_14_method_20_code 8 "OutOrderModel" 0 0) (hr : (jZh Z).sig.returnType = (some .int)) (hE : E.2.2.2 = jLM)  (h0 : Nat) (v1 : Int32) (v2 : Int32) (v3 : Int32) (v4 : Int32) (v5 : Int32) (v6 : Int32) (v7 : Int32) (I : jM) (g_h0 : jOB E 11 h0) {K : Int32 → Prop} {X12 : Int32 × Int32 × Int32 → Prop} (hX12 : ∀ s : Int32 × Int32 × Int32, X12 s → jJ Z E 8 (jQi Z E (fun r I2 => I = I2 ∧ K r)) 12 [(0, .ref (E.2.2.1 h0)), (1, .int v1), (2, .int v2), (3, .int s.1), (4, .int s.2.1), (5, .int s.2.2)] [] I) {X23 : Int32 × Int32 → Prop} (hX23 : ∀ s : Int32 × Int32, X23 s → jJ Z E 8 (jQi Z E (fun r I2 => I = I2 ∧ K r)) 23 [(0, .ref (E.2.2.1 h0)), (1, .int v1), (2, .int v2), (3, .int v3), (4, .int v4), (5, .int v5), (6, .int s.1), (7, .int s.2)] [] I) (h : MD_around_23b h0 v1 v2 v3 v4 v5 v6 v7 I K X12 X23) : jJ Z E 8 (jQi Z E (fun r I2 => I = I2 ∧ K r)) 23 [(0, .ref (E.2.2.1 h0)), (1, .int v1), (2, .int v2), (3, .int v3), (4, .int v4), (5, .int v5), (6, .int v6), (7, .int v7)] [] I := by
  unfold MD_around_23b at h
  refine j_iload C d_MD_around_23 7 rfl ?_
  refine j_aload_n C d_MD_around_25 rfl 0 rfl ?_
  refine fg_MD_7 C g_h0 d_MD_around_26 ?_
  refine j_icmp_ge C d_MD_around_29 (tgt := 65) (by decide) (fun c29 => ?_) (fun c29 => ?_)
  · have h := h.1 c29
    refine j_iload C d_MD_around_65 6 rfl ?_
    refine j_iload_n C d_MD_around_67 rfl 3 rfl ?_
    refine j_iconst C d_MD_around_68 ic_m1 ?_
    refine j_ixor C d_MD_around_69 ?_
    refine j_iand C d_MD_around_70 ?_
    refine j_topi (fun v6_1 ev6_1 => ?_)
    have h := h v6_1 ev6_1
    refine j_istore C d_MD_around_71 (by decide) (lv' := [(6, .int v6_1), (0, .ref (E.2.2.1 h0)), (1, .int v1), (2, .int v2), (3, .int v3), (4, .int v4), (5, .int v5), (7, .int v7)]) rfl ?_
    refine j_iload_n C d_MD_around_73 rfl 4 rfl ?_
    refine j_iload C d_MD_around_74 0 rfl ?_
    refine j_ior C d_MD_around_76 ?_
    refine j_topi (fun v3_2 ev3_2 => ?_)
    have h := h v3_2 ev3_2
    refine j_istore_n C d_MD_around_77 rfl (by decide) (lv' := [(3, .int v3_2), (6, .int v6_1), (0, .ref (E.2.2.1 h0)), (1, .int v1), (2, .int v2), (4, .int v4), (5, .int v5), (7, .int v7)]) rfl ?_
    refine j_iload C d_MD_around_78 5 rfl ?_
    refine j_iload C d_MD_around_80 1 rfl ?_
    refine j_iload_n C d_MD_around_82 rfl 4 rfl ?_
    refine j_iconst C d_MD_around_83 ic_m1 ?_
    refine j_ixor C d_MD_around_84 ?_
    refine j_iand C d_MD_around_85 ?_
    refine j_ior C d_MD_around_86 ?_
    refine j_topi (fun v4_3 ev4_3 => ?_)
    have h := h v4_3 ev4_3
    refine j_istore C d_MD_around_87 (by decide) (lv' := [(4, .int v4_3), (3, .int v3_2), (6, .int v6_1), (0, .ref (E.2.2.1 h0)), (1, .int v1), (2, .int v2), (5, .int v5), (7, .int v7)]) rfl ?_
    refine j_iload C d_MD_around_89 2 rfl ?_
    refine j_iload_n C d_MD_around_91 rfl 5 rfl ?_
    refine j_iand C d_MD_around_92 ?_
    refine j_topi (fun v5_4 ev5_4 => ?_)
    have h := h v5_4 ev5_4
    refine j_istore C d_MD_around_93 (by decide) (lv' := [(5, .int v5_4), (4, .int v4_3), (3, .int v3_2), (6, .int v6_1), (0, .ref (E.2.2.1 h0)), (1, .int v1), (2, .int v2), (7, .int v7)]) rfl ?_
    refine j_goto C d_MD_around_95 (tgt := 12) (by decide) ?_
    refine j_lv [4, 5, 6, 2, 1, 0] rfl ?_
    exact hX12 (v3_2, v4_3, v5_4) h
  · have h := h.2 c29
    refine j_iload C d_MD_around_32 6 rfl ?_
    refine j_iload C d_MD_around_34 5 rfl ?_
    refine j_iload C d_MD_around_36 7 rfl ?_
    refine j_ishr C d_MD_around_38 ?_
    refine j_iconst C d_MD_around_39 ic_1 ?_
    refine j_iand C d_MD_around_40 ?_
    refine j_iconst C d_MD_around_41 ic_1 ?_
    refine j_icmp_ne C d_MD_around_42 (tgt := 55) (by decide) (fun c42 => ?_) (fun c42 => ?_)
    · have h := h.1 c42
      refine j_iconst C d_MD_around_55 ic_0 ?_
      refine j_ior C d_MD_around_56 ?_
      refine j_topi (fun v6_5 ev6_5 => ?_)
      have h := h v6_5 ev6_5
      refine j_istore C d_MD_around_57 (by decide) (lv' := [(6, .int v6_5), (0, .ref (E.2.2.1 h0)), (1, .int v1), (2, .int v2), (3, .int v3), (4, .int v4), (5, .int v5), (7, .int v7)]) rfl ?_
      refine j_iinc C d_MD_around_59 7 rfl (v := (v7 + 1)) rfl (by decide) (lv' := [(7, .int (v7 + 1)), (6, .int v6_5), (0, .ref (E.2.2.1 h0)), (1, .int v1), (2, .int v2), (3, .int v3), (4, .int v4), (5, .int v5)]) rfl ?_
      refine j_goto C d_MD_around_62 (tgt := 23) (by decide) ?_
      refine j_lv [2, 3, 4, 5, 6, 7, 1, 0] rfl ?_
      exact hX23 (v6_5, (v7 + 1)) h
    · have h := h.2 c42
      refine j_aload_n C d_MD_around_45 rfl 0 rfl ?_
      refine fg_MD_33 C g_h0 d_MD_around_46 ?_
      refine j_iload C d_MD_around_49 7 rfl ?_
      obtain ⟨hi, h⟩ := h
      refine j_iaload C (sh_MD_7 hE g_h0) hi d_MD_around_51 ?_
      refine j_goto C d_MD_around_52 (tgt := 56) (by decide) ?_
      refine j_ior C d_MD_around_56 ?_
      refine j_topi (fun v6_6 ev6_6 => ?_)
      have h := h v6_6 ev6_6
      refine j_istore C d_MD_around_57 (by decide) (lv' := [(6, .int v6_6), (0, .ref (E.2.2.1 h0)), (1, .int v1), (2, .int v2), (3, .int v3), (4, .int v4), (5, .int v5), (7, .int v7)]) rfl ?_
      refine j_iinc C d_MD_around_59 7 rfl (v := (v7 + 1)) rfl (by decide) (lv' := [(7, .int (v7 + 1)), (6, .int v6_6), (0, .ref (E.2.2.1 h0)), (1, .int v1), (2, .int v2), (3, .int v3), (4, .int v4), (5, .int v5)]) rfl ?_
      refine j_goto C d_MD_around_62 (tgt := 23) (by decide) ?_
      refine j_lv [2, 3, 4, 5, 6, 7, 1, 0] rfl ?_
      exact hX23 (v6_6, (v7 + 1)) h
theorem k_MD_around_23 {Z : jZ} {E : jE} (C : jC Z E prog_14_method_20_code 8 "OutOrderModel" 0 0) (hr : (jZh Z).sig.returnType = (some .int)) (hE : E.2.2.2 = jLM)  (h0 : Nat) (v1 : Int32) (v2 : Int32) (v3 : Int32) (v4 : Int32) (v5 : Int32) (v6 : Int32) (v7 : Int32) (I : jM) (g_h0 : jOB E 11 h0) {K : Int32 → Prop} {X12 : Int32 × Int32 × Int32 → Prop} (hX12 : ∀ s : Int32 × Int32 × Int32, X12 s → jJ Z E 8 (jQi Z E (fun r I2 => I = I2 ∧ K r)) 12 [(0, .ref (E.2.2.1 h0)), (1, .int v1), (2, .int v2), (3, .int s.1), (4, .int s.2.1), (5, .int s.2.2)] [] I) (h : MD_around_23 h0 v1 v2 v3 v4 v5 v6 v7 I K X12) : jJ Z E 8 (jQi Z E (fun r I2 => I = I2 ∧ K r)) 23 [(0, .ref (E.2.2.1 h0)), (1, .int v1), (2, .int v2), (3, .int v3), (4, .int v4), (5, .int v5), (6, .int v6), (7, .int v7)] [] I := by
  unfold MD_around_23 at h
  exact h (fun s => jJ Z E 8 (jQi Z E (fun r I2 => I = I2 ∧ K r)) 23 [(0, .ref (E.2.2.1 h0)), (1, .int v1), (2, .int v2), (3, .int v3), (4, .int v4), (5, .int v5), (6, .int s.1), (7, .int s.2)] [] I) (fun s hs => kb_MD_around_23 C hr hE h0 v1 v2 v3 v4 v5 s.1 s.2 I g_h0 hX12 (fun s2 h2 => h2) hs)
def MD_around_12b (h0 : Nat) (v1 : Int32) (v2 : Int32) (v3 : Int32) (v4 : Int32) (v5 : Int32) (I : jM) (K : Int32 → Prop) (X12 : Int32 × Int32 × Int32 → Prop) : Prop :=
  ((v5 = 0 → K (v4 &&& (((1 : Int32) <<< (v1 &&& 31)) ^^^ (-1 : Int32)))) ∧ (¬ v5 = 0 → MD_around_23 h0 v1 v2 v3 v4 v5 (0 : Int32) (0 : Int32) I K X12))
def MD_around_12 (h0 : Nat) (v1 : Int32) (v2 : Int32) (v3 : Int32) (v4 : Int32) (v5 : Int32) (I : jM) (K : Int32 → Prop) : Prop :=
  lp (fun (X12 : Int32 × Int32 × Int32 → Prop) (s : Int32 × Int32 × Int32) => MD_around_12b h0 v1 v2 s.1 s.2.1 s.2.2 I K X12) (v3, v4, v5)
set_option maxRecDepth 100000 in
set_option maxHeartbeats 4000000 in
theorem kb_MD_around_12 {Z : jZ} {E : jE} (C : jC Z E prog_14_method_20_code 8 "OutOrderModel" 0 0) (hr : (jZh Z).sig.returnType = (some .int)) (hE : E.2.2.2 = jLM)  (h0 : Nat) (v1 : Int32) (v2 : Int32) (v3 : Int32) (v4 : Int32) (v5 : Int32) (I : jM) (g_h0 : jOB E 11 h0) {K : Int32 → Prop} {X12 : Int32 × Int32 × Int32 → Prop} (hX12 : ∀ s : Int32 × Int32 × Int32, X12 s → jJ Z E 8 (jQi Z E (fun r I2 => I = I2 ∧ K r)) 12 [(0, .ref (E.2.2.1 h0)), (1, .int v1), (2, .int v2), (3, .int s.1), (4, .int s.2.1), (5, .int s.2.2)] [] I) (h : MD_around_12b h0 v1 v2 v3 v4 v5 I K X12) : jJ Z E 8 (jQi Z E (fun r I2 => I = I2 ∧ K r)) 12 [(0, .ref (E.2.2.1 h0)), (1, .int v1), (2, .int v2), (3, .int v3), (4, .int v4), (5, .int v5)] [] I := by
  unfold MD_around_12b at h
  refine j_iload C d_MD_around_12 5 rfl ?_
  refine j_if_eq C d_MD_around_14 (tgt := 98) (by decide) (fun c14 => ?_) (fun c14 => ?_)
  · have h := h.1 c14
    refine j_iload C d_MD_around_98 4 rfl ?_
    refine j_iconst C d_MD_around_100 ic_1 ?_
    refine j_iload_n C d_MD_around_101 rfl 1 rfl ?_
    refine j_ishl C d_MD_around_102 ?_
    refine j_iconst C d_MD_around_103 ic_m1 ?_
    refine j_ixor C d_MD_around_104 ?_
    refine j_iand C d_MD_around_105 ?_
    exact j_iret C hr d_MD_around_106 ⟨rfl, h⟩
  · have h := h.2 c14
    refine j_iconst C d_MD_around_17 ic_0 ?_
    refine j_istore C d_MD_around_18 (by decide) (lv' := [(6, .int (0 : Int32)), (0, .ref (E.2.2.1 h0)), (1, .int v1), (2, .int v2), (3, .int v3), (4, .int v4), (5, .int v5)]) rfl ?_
    refine j_iconst C d_MD_around_20 ic_0 ?_
    refine j_istore C d_MD_around_21 (by decide) (lv' := [(7, .int (0 : Int32)), (6, .int (0 : Int32)), (0, .ref (E.2.2.1 h0)), (1, .int v1), (2, .int v2), (3, .int v3), (4, .int v4), (5, .int v5)]) rfl ?_
    refine j_lv [2, 3, 4, 5, 6, 7, 1, 0] rfl ?_
    exact k_MD_around_23 C hr hE h0 v1 v2 v3 v4 v5 (0 : Int32) (0 : Int32) I g_h0 hX12 h
theorem k_MD_around_12 {Z : jZ} {E : jE} (C : jC Z E prog_14_method_20_code 8 "OutOrderModel" 0 0) (hr : (jZh Z).sig.returnType = (some .int)) (hE : E.2.2.2 = jLM)  (h0 : Nat) (v1 : Int32) (v2 : Int32) (v3 : Int32) (v4 : Int32) (v5 : Int32) (I : jM) (g_h0 : jOB E 11 h0) {K : Int32 → Prop} (h : MD_around_12 h0 v1 v2 v3 v4 v5 I K) : jJ Z E 8 (jQi Z E (fun r I2 => I = I2 ∧ K r)) 12 [(0, .ref (E.2.2.1 h0)), (1, .int v1), (2, .int v2), (3, .int v3), (4, .int v4), (5, .int v5)] [] I := by
  unfold MD_around_12 at h
  exact h (fun s => jJ Z E 8 (jQi Z E (fun r I2 => I = I2 ∧ K r)) 12 [(0, .ref (E.2.2.1 h0)), (1, .int v1), (2, .int v2), (3, .int s.1), (4, .int s.2.1), (5, .int s.2.2)] [] I) (fun s hs => kb_MD_around_12 C hr hE h0 v1 v2 s.1 s.2.1 s.2.2 I g_h0 (fun s2 h2 => h2) hs)
/-- OutOrderModel.around(II)I -/
def MD_around (h0 : Nat) (v1 : Int32) (v2 : Int32) (I : jM) (K : Int32 → Prop) : Prop :=
  (∀ v3_1 : Int32, v3_1 = ((1 : Int32) <<< (v1 &&& 31)) → (∀ v5_2 : Int32, v5_2 = ((1 : Int32) <<< (v1 &&& 31)) → MD_around_12 h0 v1 v2 v3_1 (0 : Int32) v5_2 I K))
set_option maxRecDepth 100000 in
set_option maxHeartbeats 4000000 in
theorem s_MD_around {l : Launch} {E : jE} (ok : jOK E) (hE : E.2.2.2 = jLM) {h0 : Nat} {v1 : Int32} {v2 : Int32} (g_h0 : jOB E 11 h0) {I : jM} {K : Int32 → Prop} (h : MD_around h0 v1 v2 I K) : jSi l E ⟨"OutOrderModel", "around", "(II)I"⟩ prog_14_method_20_code 8 (some .int) 0 0 [.ref (E.2.2.1 h0), .int v1, .int v2] I (fun r I2 => I = I2 ∧ K r) := by
  refine jS_ofF (own := "OutOrderModel") (by decide +kernel) rfl ok (Nat.le_of_ble_eq_true rfl) (fun Z _ C hr => ?_)
  show jJ Z E 8 (jQi Z E (fun r I2 => I = I2 ∧ K r)) 0 [(0, .ref (E.2.2.1 h0)), (1, .int v1), (2, .int v2)] [] I
  unfold MD_around at h
  refine j_iconst C d_MD_around_0 ic_1 ?_
  refine j_iload_n C d_MD_around_1 rfl 1 rfl ?_
  refine j_ishl C d_MD_around_2 ?_
  refine j_topi (fun v3_1 ev3_1 => ?_)
  have h := h v3_1 ev3_1
  refine j_istore_n C d_MD_around_3 rfl (by decide) (lv' := [(3, .int v3_1), (0, .ref (E.2.2.1 h0)), (1, .int v1), (2, .int v2)]) rfl ?_
  refine j_iconst C d_MD_around_4 ic_0 ?_
  refine j_istore C d_MD_around_5 (by decide) (lv' := [(4, .int (0 : Int32)), (3, .int v3_1), (0, .ref (E.2.2.1 h0)), (1, .int v1), (2, .int v2)]) rfl ?_
  refine j_iconst C d_MD_around_7 ic_1 ?_
  refine j_iload_n C d_MD_around_8 rfl 3 rfl ?_
  refine j_ishl C d_MD_around_9 ?_
  refine j_topi (fun v5_2 ev5_2 => ?_)
  have h := h v5_2 ev5_2
  refine j_istore C d_MD_around_10 (by decide) (lv' := [(5, .int v5_2), (4, .int (0 : Int32)), (3, .int v3_1), (0, .ref (E.2.2.1 h0)), (1, .int v1), (2, .int v2)]) rfl ?_
  refine j_lv [3, 4, 5, 2, 1, 0] rfl ?_
  exact k_MD_around_12 C hr hE h0 v1 v2 v3_1 (0 : Int32) v5_2 I g_h0 h
theorem d_MD_in_0 : decode prog_14_method_3_code 0 = .ok (.iload_n 0, 1) := by decide +kernel
theorem d_MD_in_1 : decode prog_14_method_3_code 1 = .ok (.iload_n 1, 1) := by decide +kernel
theorem d_MD_in_2 : decode prog_14_method_3_code 2 = .ok (.if_icmp .lt 12, 3) := by decide +kernel
theorem d_MD_in_5 : decode prog_14_method_3_code 5 = .ok (.iload_n 0, 1) := by decide +kernel
theorem d_MD_in_6 : decode prog_14_method_3_code 6 = .ok (.iload_n 2, 1) := by decide +kernel
theorem d_MD_in_7 : decode prog_14_method_3_code 7 = .ok (.if_icmp .gt 7, 3) := by decide +kernel
theorem d_MD_in_10 : decode prog_14_method_3_code 10 = .ok (.iconst 1, 1) := by decide +kernel
theorem d_MD_in_11 : decode prog_14_method_3_code 11 = .ok (.goto 4, 3) := by decide +kernel
theorem d_MD_in_14 : decode prog_14_method_3_code 14 = .ok (.iconst 0, 1) := by decide +kernel
theorem d_MD_in_15 : decode prog_14_method_3_code 15 = .ok (.ireturn, 1) := by decide +kernel
/-- OutOrderModel.in(III)Z -/
def MD_in (v0 : Int32) (v1 : Int32) (v2 : Int32) (I : jM) (K : Int32 → Prop) : Prop :=
  ((v0 < v1 → K (0 : Int32)) ∧ (¬ v0 < v1 → ((v2 < v0 → K (0 : Int32)) ∧ (¬ v2 < v0 → K (1 : Int32)))))
set_option maxRecDepth 100000 in
set_option maxHeartbeats 4000000 in
theorem s_MD_in {l : Launch} {E : jE} (ok : jOK E)  {v0 : Int32} {v1 : Int32} {v2 : Int32} {I : jM} {K : Int32 → Prop} (h : MD_in v0 v1 v2 I K) : jSi l E ⟨"OutOrderModel", "in", "(III)Z"⟩ prog_14_method_3_code 3 (some .boolean) 0 0 [.int v0, .int v1, .int v2] I (fun r I2 => I = I2 ∧ K r) := by
  refine jS_ofF (own := "OutOrderModel") (by decide +kernel) rfl ok (Nat.le_of_ble_eq_true rfl) (fun Z _ C hr => ?_)
  show jJ Z E 3 (jQi Z E (fun r I2 => I = I2 ∧ K r)) 0 [(0, .int v0), (1, .int v1), (2, .int v2)] [] I
  unfold MD_in at h
  refine j_iload_n C d_MD_in_0 rfl 0 rfl ?_
  refine j_iload_n C d_MD_in_1 rfl 1 rfl ?_
  refine j_icmp_lt C d_MD_in_2 (tgt := 14) (by decide) (fun c2 => ?_) (fun c2 => ?_)
  · have h := h.1 c2
    refine j_iconst C d_MD_in_14 ic_0 ?_
    exact j_zret C hr (by decide) d_MD_in_15 ⟨rfl, h⟩
  · have h := h.2 c2
    refine j_iload_n C d_MD_in_5 rfl 0 rfl ?_
    refine j_iload_n C d_MD_in_6 rfl 2 rfl ?_
    refine j_icmp_gt C d_MD_in_7 (tgt := 14) (by decide) (fun c7 => ?_) (fun c7 => ?_)
    · have h := h.1 c7
      refine j_iconst C d_MD_in_14 ic_0 ?_
      exact j_zret C hr (by decide) d_MD_in_15 ⟨rfl, h⟩
    · have h := h.2 c7
      refine j_iconst C d_MD_in_10 ic_1 ?_
      refine j_goto C d_MD_in_11 (tgt := 15) (by decide) ?_
      exact j_zret C hr (by decide) d_MD_in_15 ⟨rfl, h⟩
theorem d_MD_isUnknown_0 : decode prog_14_method_5_code 0 = .ok (.iload_n 1, 1) := by decide +kernel
theorem d_MD_isUnknown_1 : decode prog_14_method_5_code 1 = .ok (.iconst 0, 1) := by decide +kernel
theorem d_MD_isUnknown_2 : decode prog_14_method_5_code 2 = .ok (.aload_n 0, 1) := by decide +kernel
theorem d_MD_isUnknown_3 : decode prog_14_method_5_code 3 = .ok (.getfield 7, 3) := by decide +kernel
theorem d_MD_isUnknown_6 : decode prog_14_method_5_code 6 = .ok (.iconst 1, 1) := by decide +kernel
theorem d_MD_isUnknown_7 : decode prog_14_method_5_code 7 = .ok (.isub, 1) := by decide +kernel
theorem d_MD_isUnknown_8 : decode prog_14_method_5_code 8 = .ok (.invokestatic 75, 3) := by decide +kernel
theorem d_MD_isUnknown_11 : decode prog_14_method_5_code 11 = .ok (.ireturn, 1) := by decide +kernel
/-- OutOrderModel.isUnknown(I)Z -/
def MD_isUnknown (h0 : Nat) (v1 : Int32) (I : jM) (K : Int32 → Prop) : Prop :=
  MD_in v1 (0 : Int32) ((I h0 0) - (1 : Int32)) I (fun r_1 => (narrow .boolean (.int r_1) = .int r_1 ∧ K r_1))
set_option maxRecDepth 100000 in
set_option maxHeartbeats 4000000 in
theorem s_MD_isUnknown {l : Launch} {E : jE} (ok : jOK E)  {h0 : Nat} {v1 : Int32} (g_h0 : jOB E 11 h0) {I : jM} {K : Int32 → Prop} (h : MD_isUnknown h0 v1 I K) : jSi l E ⟨"OutOrderModel", "isUnknown", "(I)Z"⟩ prog_14_method_5_code 2 (some .boolean) 1 22 [.ref (E.2.2.1 h0), .int v1] I (fun r I2 => I = I2 ∧ K r) := by
  refine jS_ofF (own := "OutOrderModel") (by decide +kernel) rfl ok (Nat.le_of_ble_eq_true rfl) (fun Z _ C hr => ?_)
  show jJ Z E 2 (jQi Z E (fun r I2 => I = I2 ∧ K r)) 0 [(0, .ref (E.2.2.1 h0)), (1, .int v1)] [] I
  unfold MD_isUnknown at h
  refine j_iload_n C d_MD_isUnknown_0 rfl 1 rfl ?_
  refine j_iconst C d_MD_isUnknown_1 ic_0 ?_
  refine j_aload_n C d_MD_isUnknown_2 rfl 0 rfl ?_
  refine fg_MD_7 C g_h0 d_MD_isUnknown_3 ?_
  refine j_iconst C d_MD_isUnknown_6 ic_1 ?_
  refine j_isub C d_MD_isUnknown_7 ?_
  refine j_callSi (As := [.int v1, .int (0 : Int32), .int ((I h0 0) - (1 : Int32))]) C cw_MD_75 w_832 rfl rfl (by decide) (by decide) (Nat.le_of_ble_eq_true rfl) d_MD_isUnknown_8 (s_MD_in C.ok  h) (fun r_1 I2 h => ?_)
  obtain ⟨rfl, h⟩ := h
  obtain ⟨hz, h⟩ := h
  exact j_zret C hr hz d_MD_isUnknown_11 ⟨rfl, h⟩
theorem d_MD_refuse_0 : decode prog_14_method_4_code 0 = .ok (.aload_n 0, 1) := by decide +kernel
theorem d_MD_refuse_1 : decode prog_14_method_4_code 1 = .ok (.getfield 30, 3) := by decide +kernel
theorem d_MD_refuse_4 : decode prog_14_method_4_code 4 = .ok (.iload_n 1, 1) := by decide +kernel
theorem d_MD_refuse_5 : decode prog_14_method_4_code 5 = .ok (.ineg, 1) := by decide +kernel
theorem d_MD_refuse_6 : decode prog_14_method_4_code 6 = .ok (.dup2, 1) := by decide +kernel
theorem d_MD_refuse_7 : decode prog_14_method_4_code 7 = .ok (.iaload, 1) := by decide +kernel
theorem d_MD_refuse_8 : decode prog_14_method_4_code 8 = .ok (.iconst 1, 1) := by decide +kernel
theorem d_MD_refuse_9 : decode prog_14_method_4_code 9 = .ok (.iadd, 1) := by decide +kernel
theorem d_MD_refuse_10 : decode prog_14_method_4_code 10 = .ok (.iastore, 1) := by decide +kernel
theorem d_MD_refuse_11 : decode prog_14_method_4_code 11 = .ok (.iload_n 1, 1) := by decide +kernel
theorem d_MD_refuse_12 : decode prog_14_method_4_code 12 = .ok (.ireturn, 1) := by decide +kernel
/-- OutOrderModel.refuse(I)I -/
def MD_refuse (h0 : Nat) (v1 : Int32) (I : jM) (K : Int32 → jM → Prop) : Prop :=
  (vp_in (-v1) 7 ∧ (vp_in (-v1) 7 ∧ (∀ I_1 : jM, I_1 = jwr I (jr h0 6) (-v1).toNatClampNeg ((I (jr h0 6) (-v1).toNatClampNeg) + (1 : Int32)) → K v1 I_1)))
set_option maxRecDepth 100000 in
set_option maxHeartbeats 4000000 in
theorem s_MD_refuse {l : Launch} {E : jE} (ok : jOK E) (hE : E.2.2.2 = jLM) {h0 : Nat} {v1 : Int32} (g_h0 : jOB E 11 h0) {I : jM} {K : Int32 → jM → Prop} (h : MD_refuse h0 v1 I K) : jSi l E ⟨"OutOrderModel", "refuse", "(I)I"⟩ prog_14_method_4_code 2 (some .int) 0 0 [.ref (E.2.2.1 h0), .int v1] I K := by
  refine jS_ofF (own := "OutOrderModel") (by decide +kernel) rfl ok (Nat.le_of_ble_eq_true rfl) (fun Z _ C hr => ?_)
  show jJ Z E 2 (jQi Z E K) 0 [(0, .ref (E.2.2.1 h0)), (1, .int v1)] [] I
  unfold MD_refuse at h
  refine j_aload_n C d_MD_refuse_0 rfl 0 rfl ?_
  refine fg_MD_30 C g_h0 d_MD_refuse_1 ?_
  refine j_iload_n C d_MD_refuse_4 rfl 1 rfl ?_
  refine j_ineg C d_MD_refuse_5 ?_
  refine j_dup2 C d_MD_refuse_6 rfl rfl ?_
  obtain ⟨hi, h⟩ := h
  refine j_iaload C (sh_MD_6 hE g_h0) hi d_MD_refuse_7 ?_
  refine j_iconst C d_MD_refuse_8 ic_1 ?_
  refine j_iadd C d_MD_refuse_9 ?_
  obtain ⟨hi, h⟩ := h
  refine j_iastore C (sh_MD_6 hE g_h0) hi d_MD_refuse_10 ?_
  have h := h _ rfl
  generalize eI_1 : (jwr I (jr h0 6) (-v1).toNatClampNeg ((I (jr h0 6) (-v1).toNatClampNeg) + (1 : Int32)) : jM) = I_1 at h ⊢
  refine j_iload_n C d_MD_refuse_11 rfl 1 rfl ?_
  exact j_iret C hr d_MD_refuse_12 h
theorem d_MD_at_0 : decode prog_14_method_27_code 0 = .ok (.aload_n 0, 1) := by decide +kernel
theorem d_MD_at_1 : decode prog_14_method_27_code 1 = .ok (.iload_n 1, 1) := by decide +kernel
theorem d_MD_at_2 : decode prog_14_method_27_code 2 = .ok (.invokevirtual 90, 3) := by decide +kernel
theorem d_MD_at_5 : decode prog_14_method_27_code 5 = .ok (.ifCond .eq 12, 3) := by decide +kernel
theorem d_MD_at_8 : decode prog_14_method_27_code 8 = .ok (.aload_n 0, 1) := by decide +kernel
theorem d_MD_at_9 : decode prog_14_method_27_code 9 = .ok (.getfield 24, 3) := by decide +kernel
theorem d_MD_at_12 : decode prog_14_method_27_code 12 = .ok (.iload_n 1, 1) := by decide +kernel
theorem d_MD_at_13 : decode prog_14_method_27_code 13 = .ok (.iaload, 1) := by decide +kernel
theorem d_MD_at_14 : decode prog_14_method_27_code 14 = .ok (.goto 8, 3) := by decide +kernel
theorem d_MD_at_17 : decode prog_14_method_27_code 17 = .ok (.aload_n 0, 1) := by decide +kernel
theorem d_MD_at_18 : decode prog_14_method_27_code 18 = .ok (.iconst (-1), 1) := by decide +kernel
theorem d_MD_at_19 : decode prog_14_method_27_code 19 = .ok (.invokevirtual 79, 3) := by decide +kernel
theorem d_MD_at_22 : decode prog_14_method_27_code 22 = .ok (.ireturn, 1) := by decide +kernel
/-- OutOrderModel.at(I)I -/
def MD_at (h0 : Nat) (v1 : Int32) (I : jM) (K : Int32 → jM → Prop) : Prop :=
  MD_isUnknown h0 v1 I (fun r_1 => ((r_1 = 0 → MD_refuse h0 (-1 : Int32) I (fun r_2 I_3 => K r_2 I_3)) ∧ (¬ r_1 = 0 → (vp_in v1 24 ∧ K (I (jr h0 4) v1.toNatClampNeg) I))))
set_option maxRecDepth 100000 in
set_option maxHeartbeats 4000000 in
theorem s_MD_at {l : Launch} {E : jE} (ok : jOK E) (hE : E.2.2.2 = jLM) {h0 : Nat} {v1 : Int32} (g_h0 : jOB E 11 h0) {I : jM} {K : Int32 → jM → Prop} (h : MD_at h0 v1 I K) : jSi l E ⟨"OutOrderModel", "at", "(I)I"⟩ prog_14_method_27_code 2 (some .int) 2 43 [.ref (E.2.2.1 h0), .int v1] I K := by
  refine jS_ofF (own := "OutOrderModel") (by decide +kernel) rfl ok (Nat.le_of_ble_eq_true rfl) (fun Z _ C hr => ?_)
  show jJ Z E 2 (jQi Z E K) 0 [(0, .ref (E.2.2.1 h0)), (1, .int v1)] [] I
  unfold MD_at at h
  refine j_aload_n C d_MD_at_0 rfl 0 rfl ?_
  refine j_iload_n C d_MD_at_1 rfl 1 rfl ?_
  refine j_callVi (As := [.int v1]) C jcl_MD cw_MD_90 w_829 ws_26 g_h0 rfl rfl (by decide) (by decide) (Nat.le_of_ble_eq_true rfl) d_MD_at_2 (s_MD_isUnknown C.ok g_h0 h) (fun r_1 I2 h => ?_)
  obtain ⟨rfl, h⟩ := h
  refine j_if_eq C d_MD_at_5 (tgt := 17) (by decide) (fun c5 => ?_) (fun c5 => ?_)
  · have h := h.1 c5
    refine j_aload_n C d_MD_at_17 rfl 0 rfl ?_
    refine j_iconst C d_MD_at_18 ic_m1 ?_
    refine j_callVi (As := [.int (-1 : Int32)]) C jcl_MD cw_MD_79 w_809 ws_23 g_h0 rfl rfl (by decide) (by decide) (Nat.le_of_ble_eq_true rfl) d_MD_at_19 (s_MD_refuse C.ok hE g_h0 h) (fun r_2 I_3 h => ?_)
    exact j_iret C hr d_MD_at_22 h
  · have h := h.2 c5
    refine j_aload_n C d_MD_at_8 rfl 0 rfl ?_
    refine fg_MD_24 C g_h0 d_MD_at_9 ?_
    refine j_iload_n C d_MD_at_12 rfl 1 rfl ?_
    obtain ⟨hi, h⟩ := h
    refine j_iaload C (sh_MD_4 hE g_h0) hi d_MD_at_13 ?_
    refine j_goto C d_MD_at_14 (tgt := 22) (by decide) ?_
    exact j_iret C hr d_MD_at_22 h
theorem d_MD_back_0 : decode prog_14_method_46_code 0 = .ok (.aload_n 0, 1) := by decide +kernel
theorem d_MD_back_1 : decode prog_14_method_46_code 1 = .ok (.getfield 161, 3) := by decide +kernel
theorem d_MD_back_4 : decode prog_14_method_46_code 4 = .ok (.ifCond .ne 6, 3) := by decide +kernel
theorem d_MD_back_7 : decode prog_14_method_46_code 7 = .ok (.bipush (-9), 2) := by decide +kernel
theorem d_MD_back_9 : decode prog_14_method_46_code 9 = .ok (.ireturn, 1) := by decide +kernel
theorem d_MD_back_10 : decode prog_14_method_46_code 10 = .ok (.aload_n 0, 1) := by decide +kernel
theorem d_MD_back_11 : decode prog_14_method_46_code 11 = .ok (.dup, 1) := by decide +kernel
theorem d_MD_back_12 : decode prog_14_method_46_code 12 = .ok (.getfield 161, 3) := by decide +kernel
theorem d_MD_back_15 : decode prog_14_method_46_code 15 = .ok (.iconst 1, 1) := by decide +kernel
theorem d_MD_back_16 : decode prog_14_method_46_code 16 = .ok (.isub, 1) := by decide +kernel
theorem d_MD_back_17 : decode prog_14_method_46_code 17 = .ok (.putfield 161, 3) := by decide +kernel
theorem d_MD_back_20 : decode prog_14_method_46_code 20 = .ok (.iconst 0, 1) := by decide +kernel
theorem d_MD_back_21 : decode prog_14_method_46_code 21 = .ok (.istore_n 1, 1) := by decide +kernel
theorem d_MD_back_22 : decode prog_14_method_46_code 22 = .ok (.iload_n 1, 1) := by decide +kernel
theorem d_MD_back_23 : decode prog_14_method_46_code 23 = .ok (.aload_n 0, 1) := by decide +kernel
theorem d_MD_back_24 : decode prog_14_method_46_code 24 = .ok (.getfield 7, 3) := by decide +kernel
theorem d_MD_back_27 : decode prog_14_method_46_code 27 = .ok (.if_icmp .ge 29, 3) := by decide +kernel
theorem d_MD_back_30 : decode prog_14_method_46_code 30 = .ok (.aload_n 0, 1) := by decide +kernel
theorem d_MD_back_31 : decode prog_14_method_46_code 31 = .ok (.getfield 57, 3) := by decide +kernel
theorem d_MD_back_34 : decode prog_14_method_46_code 34 = .ok (.iload_n 1, 1) := by decide +kernel
theorem d_MD_back_35 : decode prog_14_method_46_code 35 = .ok (.aload_n 0, 1) := by decide +kernel
theorem d_MD_back_36 : decode prog_14_method_46_code 36 = .ok (.getfield 54, 3) := by decide +kernel
theorem d_MD_back_39 : decode prog_14_method_46_code 39 = .ok (.bipush 24, 2) := by decide +kernel
theorem d_MD_back_41 : decode prog_14_method_46_code 41 = .ok (.aload_n 0, 1) := by decide +kernel
theorem d_MD_back_42 : decode prog_14_method_46_code 42 = .ok (.getfield 161, 3) := by decide +kernel
theorem d_MD_back_45 : decode prog_14_method_46_code 45 = .ok (.imul, 1) := by decide +kernel
theorem d_MD_back_46 : decode prog_14_method_46_code 46 = .ok (.iload_n 1, 1) := by decide +kernel
theorem d_MD_back_47 : decode prog_14_method_46_code 47 = .ok (.iadd, 1) := by decide +kernel
theorem d_MD_back_48 : decode prog_14_method_46_code 48 = .ok (.iaload, 1) := by decide +kernel
theorem d_MD_back_49 : decode prog_14_method_46_code 49 = .ok (.iastore, 1) := by decide +kernel
theorem d_MD_back_50 : decode prog_14_method_46_code 50 = .ok (.iinc 1 1, 3) := by decide +kernel
theorem d_MD_back_53 : decode prog_14_method_46_code 53 = .ok (.goto (-31), 3) := by decide +kernel
theorem d_MD_back_56 : decode prog_14_method_46_code 56 = .ok (.aload_n 0, 1) := by decide +kernel
theorem d_MD_back_57 : decode prog_14_method_46_code 57 = .ok (.getfield 51, 3) := by decide +kernel
theorem d_MD_back_60 : decode prog_14_method_46_code 60 = .ok (.aload_n 0, 1) := by decide +kernel
theorem d_MD_back_61 : decode prog_14_method_46_code 61 = .ok (.getfield 161, 3) := by decide +kernel
theorem d_MD_back_64 : decode prog_14_method_46_code 64 = .ok (.iaload, 1) := by decide +kernel
theorem d_MD_back_65 : decode prog_14_method_46_code 65 = .ok (.ireturn, 1) := by decide +kernel
def MD_back_22b (h0 : Nat) (v1 : Int32) (I : jM) (K : Int32 → jM → Prop) (X22 : Int32 × jM → Prop) : Prop :=
  (((I h0 0) ≤ v1 → (vp_in (I h0 15) 24 ∧ K (I (jr h0 14) (I h0 15).toNatClampNeg) I)) ∧ (¬ (I h0 0) ≤ v1 → (vp_in (((24 : Int32) * (I h0 15)) + v1) 600 ∧ (vp_in v1 24 ∧ (∀ I_1 : jM, I_1 = jwr I (jr h0 17) v1.toNatClampNeg (I (jr h0 16) (((24 : Int32) * (I h0 15)) + v1).toNatClampNeg) → X22 ((v1 + 1), I_1))))))
def MD_back_22 (h0 : Nat) (v1 : Int32) (I : jM) (K : Int32 → jM → Prop) : Prop :=
  lp (fun (X22 : Int32 × jM → Prop) (s : Int32 × jM) => MD_back_22b h0 s.1 s.2 K X22) (v1, I)
set_option maxRecDepth 100000 in
set_option maxHeartbeats 4000000 in
theorem kb_MD_back_22 {Z : jZ} {E : jE} (C : jC Z E prog_14_method_46_code 2 "OutOrderModel" 0 0) (hr : (jZh Z).sig.returnType = (some .int)) (hE : E.2.2.2 = jLM)  (h0 : Nat) (v1 : Int32) (I : jM) (g_h0 : jOB E 11 h0) {K : Int32 → jM → Prop} {X22 : Int32 × jM → Prop} (hX22 : ∀ s : Int32 × jM, X22 s → jJ Z E 2 (jQi Z E K) 22 [(0, .ref (E.2.2.1 h0)), (1, .int s.1)] [] s.2) (h : MD_back_22b h0 v1 I K X22) : jJ Z E 2 (jQi Z E K) 22 [(0, .ref (E.2.2.1 h0)), (1, .int v1)] [] I := by
  unfold MD_back_22b at h
  refine j_iload_n C d_MD_back_22 rfl 1 rfl ?_
  refine j_aload_n C d_MD_back_23 rfl 0 rfl ?_
  refine fg_MD_7 C g_h0 d_MD_back_24 ?_
  refine j_icmp_ge C d_MD_back_27 (tgt := 56) (by decide) (fun c27 => ?_) (fun c27 => ?_)
  · have h := h.1 c27
    refine j_aload_n C d_MD_back_56 rfl 0 rfl ?_
    refine fg_MD_51 C g_h0 d_MD_back_57 ?_
    refine j_aload_n C d_MD_back_60 rfl 0 rfl ?_
    refine fg_MD_161 C g_h0 d_MD_back_61 ?_
    obtain ⟨hi, h⟩ := h
    refine j_iaload C (sh_MD_14 hE g_h0) hi d_MD_back_64 ?_
    exact j_iret C hr d_MD_back_65 h
  · have h := h.2 c27
    refine j_aload_n C d_MD_back_30 rfl 0 rfl ?_
    refine fg_MD_57 C g_h0 d_MD_back_31 ?_
    refine j_iload_n C d_MD_back_34 rfl 1 rfl ?_
    refine j_aload_n C d_MD_back_35 rfl 0 rfl ?_
    refine fg_MD_54 C g_h0 d_MD_back_36 ?_
    refine j_bipush C d_MD_back_39 ib_24 ?_
    refine j_aload_n C d_MD_back_41 rfl 0 rfl ?_
    refine fg_MD_161 C g_h0 d_MD_back_42 ?_
    refine j_imul C d_MD_back_45 ?_
    refine j_iload_n C d_MD_back_46 rfl 1 rfl ?_
    refine j_iadd C d_MD_back_47 ?_
    obtain ⟨hi, h⟩ := h
    refine j_iaload C (sh_MD_16 hE g_h0) hi d_MD_back_48 ?_
    obtain ⟨hi, h⟩ := h
    refine j_iastore C (sh_MD_17 hE g_h0) hi d_MD_back_49 ?_
    have h := h _ rfl
    generalize eI_1 : (jwr I (jr h0 17) v1.toNatClampNeg (I (jr h0 16) (((24 : Int32) * (I h0 15)) + v1).toNatClampNeg) : jM) = I_1 at h ⊢
    refine j_iinc C d_MD_back_50 1 rfl (v := (v1 + 1)) rfl (by decide) (lv' := [(1, .int (v1 + 1)), (0, .ref (E.2.2.1 h0))]) rfl ?_
    refine j_goto C d_MD_back_53 (tgt := 22) (by decide) ?_
    refine j_lv [1, 0] rfl ?_
    exact hX22 ((v1 + 1), I_1) h
theorem k_MD_back_22 {Z : jZ} {E : jE} (C : jC Z E prog_14_method_46_code 2 "OutOrderModel" 0 0) (hr : (jZh Z).sig.returnType = (some .int)) (hE : E.2.2.2 = jLM)  (h0 : Nat) (v1 : Int32) (I : jM) (g_h0 : jOB E 11 h0) {K : Int32 → jM → Prop} (h : MD_back_22 h0 v1 I K) : jJ Z E 2 (jQi Z E K) 22 [(0, .ref (E.2.2.1 h0)), (1, .int v1)] [] I := by
  unfold MD_back_22 at h
  exact h (fun s => jJ Z E 2 (jQi Z E K) 22 [(0, .ref (E.2.2.1 h0)), (1, .int s.1)] [] s.2) (fun s hs => kb_MD_back_22 C hr hE h0 s.1 s.2 g_h0 (fun s2 h2 => h2) hs)
/-- OutOrderModel.back()I -/
def MD_back (h0 : Nat) (I : jM) (K : Int32 → jM → Prop) : Prop :=
  ((¬ (I h0 15) = 0 → (∀ I_1 : jM, I_1 = jwr I h0 15 ((I h0 15) - (1 : Int32)) → MD_back_22 h0 (0 : Int32) I_1 K)) ∧ ((I h0 15) = 0 → K (-9 : Int32) I))
set_option maxRecDepth 100000 in
set_option maxHeartbeats 4000000 in
theorem s_MD_back {l : Launch} {E : jE} (ok : jOK E) (hE : E.2.2.2 = jLM) {h0 : Nat} (g_h0 : jOB E 11 h0) {I : jM} {K : Int32 → jM → Prop} (h : MD_back h0 I K) : jSi l E ⟨"OutOrderModel", "back", "()I"⟩ prog_14_method_46_code 2 (some .int) 0 0 [.ref (E.2.2.1 h0)] I K := by
  refine jS_ofF (own := "OutOrderModel") (by decide +kernel) rfl ok (Nat.le_of_ble_eq_true rfl) (fun Z _ C hr => ?_)
  show jJ Z E 2 (jQi Z E K) 0 [(0, .ref (E.2.2.1 h0))] [] I
  unfold MD_back at h
  refine j_aload_n C d_MD_back_0 rfl 0 rfl ?_
  refine fg_MD_161 C g_h0 d_MD_back_1 ?_
  refine j_if_ne C d_MD_back_4 (tgt := 10) (by decide) (fun c4 => ?_) (fun c4 => ?_)
  · have h := h.1 c4
    refine j_aload_n C d_MD_back_10 rfl 0 rfl ?_
    refine j_dup C d_MD_back_11 rfl ?_
    refine fg_MD_161 C g_h0 d_MD_back_12 ?_
    refine j_iconst C d_MD_back_15 ic_1 ?_
    refine j_isub C d_MD_back_16 ?_
    refine fp_MD_161 C g_h0 d_MD_back_17 ?_
    have h := h _ rfl
    generalize eI_1 : (jwr I h0 15 ((I h0 15) - (1 : Int32)) : jM) = I_1 at h ⊢
    refine j_iconst C d_MD_back_20 ic_0 ?_
    refine j_istore_n C d_MD_back_21 rfl (by decide) (lv' := [(1, .int (0 : Int32)), (0, .ref (E.2.2.1 h0))]) rfl ?_
    refine j_lv [1, 0] rfl ?_
    exact k_MD_back_22 C hr hE h0 (0 : Int32) I_1 g_h0 h
  · have h := h.2 c4
    refine j_bipush C d_MD_back_7 ib_m9 ?_
    exact j_iret C hr d_MD_back_9 h
theorem d_MD_beginNet_0 : decode prog_14_method_13_code 0 = .ok (.iconst 0, 1) := by decide +kernel
theorem d_MD_beginNet_1 : decode prog_14_method_13_code 1 = .ok (.istore_n 1, 1) := by decide +kernel
theorem d_MD_beginNet_2 : decode prog_14_method_13_code 2 = .ok (.iload_n 1, 1) := by decide +kernel
theorem d_MD_beginNet_3 : decode prog_14_method_13_code 3 = .ok (.aload_n 0, 1) := by decide +kernel
theorem d_MD_beginNet_4 : decode prog_14_method_13_code 4 = .ok (.getfield 7, 3) := by decide +kernel
theorem d_MD_beginNet_7 : decode prog_14_method_13_code 7 = .ok (.if_icmp .ge 67, 3) := by decide +kernel
theorem d_MD_beginNet_10 : decode prog_14_method_13_code 10 = .ok (.aload_n 0, 1) := by decide +kernel
theorem d_MD_beginNet_11 : decode prog_14_method_13_code 11 = .ok (.getfield 33, 3) := by decide +kernel
theorem d_MD_beginNet_14 : decode prog_14_method_13_code 14 = .ok (.iload_n 1, 1) := by decide +kernel
theorem d_MD_beginNet_15 : decode prog_14_method_13_code 15 = .ok (.iconst 0, 1) := by decide +kernel
theorem d_MD_beginNet_16 : decode prog_14_method_13_code 16 = .ok (.iastore, 1) := by decide +kernel
theorem d_MD_beginNet_17 : decode prog_14_method_13_code 17 = .ok (.iconst 0, 1) := by decide +kernel
theorem d_MD_beginNet_18 : decode prog_14_method_13_code 18 = .ok (.istore_n 2, 1) := by decide +kernel
theorem d_MD_beginNet_19 : decode prog_14_method_13_code 19 = .ok (.iload_n 2, 1) := by decide +kernel
theorem d_MD_beginNet_20 : decode prog_14_method_13_code 20 = .ok (.aload_n 0, 1) := by decide +kernel
theorem d_MD_beginNet_21 : decode prog_14_method_13_code 21 = .ok (.getfield 7, 3) := by decide +kernel
theorem d_MD_beginNet_24 : decode prog_14_method_13_code 24 = .ok (.if_icmp .ge 44, 3) := by decide +kernel
theorem d_MD_beginNet_27 : decode prog_14_method_13_code 27 = .ok (.aload_n 0, 1) := by decide +kernel
theorem d_MD_beginNet_28 : decode prog_14_method_13_code 28 = .ok (.getfield 33, 3) := by decide +kernel
theorem d_MD_beginNet_31 : decode prog_14_method_13_code 31 = .ok (.iload_n 1, 1) := by decide +kernel
theorem d_MD_beginNet_32 : decode prog_14_method_13_code 32 = .ok (.dup2, 1) := by decide +kernel
theorem d_MD_beginNet_33 : decode prog_14_method_13_code 33 = .ok (.iaload, 1) := by decide +kernel
theorem d_MD_beginNet_34 : decode prog_14_method_13_code 34 = .ok (.iload_n 1, 1) := by decide +kernel
theorem d_MD_beginNet_35 : decode prog_14_method_13_code 35 = .ok (.iload_n 2, 1) := by decide +kernel
theorem d_MD_beginNet_36 : decode prog_14_method_13_code 36 = .ok (.if_icmp .eq 23, 3) := by decide +kernel
theorem d_MD_beginNet_39 : decode prog_14_method_13_code 39 = .ok (.aload_n 0, 1) := by decide +kernel
theorem d_MD_beginNet_40 : decode prog_14_method_13_code 40 = .ok (.getfield 16, 3) := by decide +kernel
theorem d_MD_beginNet_43 : decode prog_14_method_13_code 43 = .ok (.bipush 24, 2) := by decide +kernel
theorem d_MD_beginNet_45 : decode prog_14_method_13_code 45 = .ok (.iload_n 1, 1) := by decide +kernel
theorem d_MD_beginNet_46 : decode prog_14_method_13_code 46 = .ok (.imul, 1) := by decide +kernel
theorem d_MD_beginNet_47 : decode prog_14_method_13_code 47 = .ok (.iload_n 2, 1) := by decide +kernel
theorem d_MD_beginNet_48 : decode prog_14_method_13_code 48 = .ok (.iadd, 1) := by decide +kernel
theorem d_MD_beginNet_49 : decode prog_14_method_13_code 49 = .ok (.iaload, 1) := by decide +kernel
theorem d_MD_beginNet_50 : decode prog_14_method_13_code 50 = .ok (.ifCond .eq 9, 3) := by decide +kernel
theorem d_MD_beginNet_53 : decode prog_14_method_13_code 53 = .ok (.iconst 1, 1) := by decide +kernel
theorem d_MD_beginNet_54 : decode prog_14_method_13_code 54 = .ok (.iload_n 2, 1) := by decide +kernel
theorem d_MD_beginNet_55 : decode prog_14_method_13_code 55 = .ok (.ishl, 1) := by decide +kernel
theorem d_MD_beginNet_56 : decode prog_14_method_13_code 56 = .ok (.goto 4, 3) := by decide +kernel
theorem d_MD_beginNet_59 : decode prog_14_method_13_code 59 = .ok (.iconst 0, 1) := by decide +kernel
theorem d_MD_beginNet_60 : decode prog_14_method_13_code 60 = .ok (.ior, 1) := by decide +kernel
theorem d_MD_beginNet_61 : decode prog_14_method_13_code 61 = .ok (.iastore, 1) := by decide +kernel
theorem d_MD_beginNet_62 : decode prog_14_method_13_code 62 = .ok (.iinc 2 1, 3) := by decide +kernel
theorem d_MD_beginNet_65 : decode prog_14_method_13_code 65 = .ok (.goto (-46), 3) := by decide +kernel
theorem d_MD_beginNet_68 : decode prog_14_method_13_code 68 = .ok (.iinc 1 1, 3) := by decide +kernel
theorem d_MD_beginNet_71 : decode prog_14_method_13_code 71 = .ok (.goto (-69), 3) := by decide +kernel
theorem d_MD_beginNet_74 : decode prog_14_method_13_code 74 = .ok (.return_, 1) := by decide +kernel
def MD_beginNet_19b (h0 : Nat) (v1 : Int32) (v2 : Int32) (I : jM) (K : jM → Prop) (X2 : Int32 × jM → Prop) (X19 : Int32 × jM → Prop) : Prop :=
  (((I h0 0) ≤ v2 → X2 ((v1 + 1), I)) ∧ (¬ (I h0 0) ≤ v2 → (vp_in v1 24 ∧ ((v1 = v2 → (vp_in v1 24 ∧ (∀ I_1 : jM, I_1 = jwr I (jr h0 7) v1.toNatClampNeg ((I (jr h0 7) v1.toNatClampNeg) ||| (0 : Int32)) → X19 ((v2 + 1), I_1)))) ∧ (¬ v1 = v2 → (vp_in (((24 : Int32) * v1) + v2) 576 ∧ (((I (jr h0 2) (((24 : Int32) * v1) + v2).toNatClampNeg) = 0 → (vp_in v1 24 ∧ (∀ I_2 : jM, I_2 = jwr I (jr h0 7) v1.toNatClampNeg ((I (jr h0 7) v1.toNatClampNeg) ||| (0 : Int32)) → X19 ((v2 + 1), I_2)))) ∧ (¬ (I (jr h0 2) (((24 : Int32) * v1) + v2).toNatClampNeg) = 0 → (vp_in v1 24 ∧ (∀ I_3 : jM, I_3 = jwr I (jr h0 7) v1.toNatClampNeg ((I (jr h0 7) v1.toNatClampNeg) ||| ((1 : Int32) <<< (v2 &&& 31))) → X19 ((v2 + 1), I_3)))))))))))
def MD_beginNet_19 (h0 : Nat) (v1 : Int32) (v2 : Int32) (I : jM) (K : jM → Prop) (X2 : Int32 × jM → Prop) : Prop :=
  lp (fun (X19 : Int32 × jM → Prop) (s : Int32 × jM) => MD_beginNet_19b h0 v1 s.1 s.2 K X2 X19) (v2, I)
set_option maxRecDepth 100000 in
set_option maxHeartbeats 4000000 in
theorem kb_MD_beginNet_19 {Z : jZ} {E : jE} (C : jC Z E prog_14_method_13_code 3 "OutOrderModel" 0 0) (hr : (jZh Z).sig.returnType = none) (hE : E.2.2.2 = jLM)  (h0 : Nat) (v1 : Int32) (v2 : Int32) (I : jM) (g_h0 : jOB E 11 h0) {K : jM → Prop} {X2 : Int32 × jM → Prop} (hX2 : ∀ s : Int32 × jM, X2 s → jJ Z E 3 (jQv Z E K) 2 [(0, .ref (E.2.2.1 h0)), (1, .int s.1)] [] s.2) {X19 : Int32 × jM → Prop} (hX19 : ∀ s : Int32 × jM, X19 s → jJ Z E 3 (jQv Z E K) 19 [(0, .ref (E.2.2.1 h0)), (1, .int v1), (2, .int s.1)] [] s.2) (h : MD_beginNet_19b h0 v1 v2 I K X2 X19) : jJ Z E 3 (jQv Z E K) 19 [(0, .ref (E.2.2.1 h0)), (1, .int v1), (2, .int v2)] [] I := by
  unfold MD_beginNet_19b at h
  refine j_iload_n C d_MD_beginNet_19 rfl 2 rfl ?_
  refine j_aload_n C d_MD_beginNet_20 rfl 0 rfl ?_
  refine fg_MD_7 C g_h0 d_MD_beginNet_21 ?_
  refine j_icmp_ge C d_MD_beginNet_24 (tgt := 68) (by decide) (fun c24 => ?_) (fun c24 => ?_)
  · have h := h.1 c24
    refine j_iinc C d_MD_beginNet_68 1 rfl (v := (v1 + 1)) rfl (by decide) (lv' := [(1, .int (v1 + 1)), (0, .ref (E.2.2.1 h0)), (2, .int v2)]) rfl ?_
    refine j_goto C d_MD_beginNet_71 (tgt := 2) (by decide) ?_
    refine j_lv [1, 0] rfl ?_
    exact hX2 ((v1 + 1), I) h
  · have h := h.2 c24
    refine j_aload_n C d_MD_beginNet_27 rfl 0 rfl ?_
    refine fg_MD_33 C g_h0 d_MD_beginNet_28 ?_
    refine j_iload_n C d_MD_beginNet_31 rfl 1 rfl ?_
    refine j_dup2 C d_MD_beginNet_32 rfl rfl ?_
    obtain ⟨hi, h⟩ := h
    refine j_iaload C (sh_MD_7 hE g_h0) hi d_MD_beginNet_33 ?_
    refine j_iload_n C d_MD_beginNet_34 rfl 1 rfl ?_
    refine j_iload_n C d_MD_beginNet_35 rfl 2 rfl ?_
    refine j_icmp_eq C d_MD_beginNet_36 (tgt := 59) (by decide) (fun c36 => ?_) (fun c36 => ?_)
    · have h := h.1 c36
      refine j_iconst C d_MD_beginNet_59 ic_0 ?_
      refine j_ior C d_MD_beginNet_60 ?_
      obtain ⟨hi, h⟩ := h
      refine j_iastore C (sh_MD_7 hE g_h0) hi d_MD_beginNet_61 ?_
      have h := h _ rfl
      generalize eI_1 : (jwr I (jr h0 7) v1.toNatClampNeg ((I (jr h0 7) v1.toNatClampNeg) ||| (0 : Int32)) : jM) = I_1 at h ⊢
      refine j_iinc C d_MD_beginNet_62 2 rfl (v := (v2 + 1)) rfl (by decide) (lv' := [(2, .int (v2 + 1)), (0, .ref (E.2.2.1 h0)), (1, .int v1)]) rfl ?_
      refine j_goto C d_MD_beginNet_65 (tgt := 19) (by decide) ?_
      refine j_lv [1, 2, 0] rfl ?_
      exact hX19 ((v2 + 1), I_1) h
    · have h := h.2 c36
      refine j_aload_n C d_MD_beginNet_39 rfl 0 rfl ?_
      refine fg_MD_16 C g_h0 d_MD_beginNet_40 ?_
      refine j_bipush C d_MD_beginNet_43 ib_24 ?_
      refine j_iload_n C d_MD_beginNet_45 rfl 1 rfl ?_
      refine j_imul C d_MD_beginNet_46 ?_
      refine j_iload_n C d_MD_beginNet_47 rfl 2 rfl ?_
      refine j_iadd C d_MD_beginNet_48 ?_
      obtain ⟨hi, h⟩ := h
      refine j_iaload C (sh_MD_2 hE g_h0) hi d_MD_beginNet_49 ?_
      refine j_if_eq C d_MD_beginNet_50 (tgt := 59) (by decide) (fun c50 => ?_) (fun c50 => ?_)
      · have h := h.1 c50
        refine j_iconst C d_MD_beginNet_59 ic_0 ?_
        refine j_ior C d_MD_beginNet_60 ?_
        obtain ⟨hi, h⟩ := h
        refine j_iastore C (sh_MD_7 hE g_h0) hi d_MD_beginNet_61 ?_
        have h := h _ rfl
        generalize eI_2 : (jwr I (jr h0 7) v1.toNatClampNeg ((I (jr h0 7) v1.toNatClampNeg) ||| (0 : Int32)) : jM) = I_2 at h ⊢
        refine j_iinc C d_MD_beginNet_62 2 rfl (v := (v2 + 1)) rfl (by decide) (lv' := [(2, .int (v2 + 1)), (0, .ref (E.2.2.1 h0)), (1, .int v1)]) rfl ?_
        refine j_goto C d_MD_beginNet_65 (tgt := 19) (by decide) ?_
        refine j_lv [1, 2, 0] rfl ?_
        exact hX19 ((v2 + 1), I_2) h
      · have h := h.2 c50
        refine j_iconst C d_MD_beginNet_53 ic_1 ?_
        refine j_iload_n C d_MD_beginNet_54 rfl 2 rfl ?_
        refine j_ishl C d_MD_beginNet_55 ?_
        refine j_goto C d_MD_beginNet_56 (tgt := 60) (by decide) ?_
        refine j_ior C d_MD_beginNet_60 ?_
        obtain ⟨hi, h⟩ := h
        refine j_iastore C (sh_MD_7 hE g_h0) hi d_MD_beginNet_61 ?_
        have h := h _ rfl
        generalize eI_3 : (jwr I (jr h0 7) v1.toNatClampNeg ((I (jr h0 7) v1.toNatClampNeg) ||| ((1 : Int32) <<< (v2 &&& 31))) : jM) = I_3 at h ⊢
        refine j_iinc C d_MD_beginNet_62 2 rfl (v := (v2 + 1)) rfl (by decide) (lv' := [(2, .int (v2 + 1)), (0, .ref (E.2.2.1 h0)), (1, .int v1)]) rfl ?_
        refine j_goto C d_MD_beginNet_65 (tgt := 19) (by decide) ?_
        refine j_lv [1, 2, 0] rfl ?_
        exact hX19 ((v2 + 1), I_3) h
theorem k_MD_beginNet_19 {Z : jZ} {E : jE} (C : jC Z E prog_14_method_13_code 3 "OutOrderModel" 0 0) (hr : (jZh Z).sig.returnType = none) (hE : E.2.2.2 = jLM)  (h0 : Nat) (v1 : Int32) (v2 : Int32) (I : jM) (g_h0 : jOB E 11 h0) {K : jM → Prop} {X2 : Int32 × jM → Prop} (hX2 : ∀ s : Int32 × jM, X2 s → jJ Z E 3 (jQv Z E K) 2 [(0, .ref (E.2.2.1 h0)), (1, .int s.1)] [] s.2) (h : MD_beginNet_19 h0 v1 v2 I K X2) : jJ Z E 3 (jQv Z E K) 19 [(0, .ref (E.2.2.1 h0)), (1, .int v1), (2, .int v2)] [] I := by
  unfold MD_beginNet_19 at h
  exact h (fun s => jJ Z E 3 (jQv Z E K) 19 [(0, .ref (E.2.2.1 h0)), (1, .int v1), (2, .int s.1)] [] s.2) (fun s hs => kb_MD_beginNet_19 C hr hE h0 v1 s.1 s.2 g_h0 hX2 (fun s2 h2 => h2) hs)
def MD_beginNet_2b (h0 : Nat) (v1 : Int32) (I : jM) (K : jM → Prop) (X2 : Int32 × jM → Prop) : Prop :=
  (((I h0 0) ≤ v1 → K I) ∧ (¬ (I h0 0) ≤ v1 → (vp_in v1 24 ∧ (∀ I_1 : jM, I_1 = jwr I (jr h0 7) v1.toNatClampNeg (0 : Int32) → MD_beginNet_19 h0 v1 (0 : Int32) I_1 K X2))))
def MD_beginNet_2 (h0 : Nat) (v1 : Int32) (I : jM) (K : jM → Prop) : Prop :=
  lp (fun (X2 : Int32 × jM → Prop) (s : Int32 × jM) => MD_beginNet_2b h0 s.1 s.2 K X2) (v1, I)
set_option maxRecDepth 100000 in
set_option maxHeartbeats 4000000 in
theorem kb_MD_beginNet_2 {Z : jZ} {E : jE} (C : jC Z E prog_14_method_13_code 3 "OutOrderModel" 0 0) (hr : (jZh Z).sig.returnType = none) (hE : E.2.2.2 = jLM)  (h0 : Nat) (v1 : Int32) (I : jM) (g_h0 : jOB E 11 h0) {K : jM → Prop} {X2 : Int32 × jM → Prop} (hX2 : ∀ s : Int32 × jM, X2 s → jJ Z E 3 (jQv Z E K) 2 [(0, .ref (E.2.2.1 h0)), (1, .int s.1)] [] s.2) (h : MD_beginNet_2b h0 v1 I K X2) : jJ Z E 3 (jQv Z E K) 2 [(0, .ref (E.2.2.1 h0)), (1, .int v1)] [] I := by
  unfold MD_beginNet_2b at h
  refine j_iload_n C d_MD_beginNet_2 rfl 1 rfl ?_
  refine j_aload_n C d_MD_beginNet_3 rfl 0 rfl ?_
  refine fg_MD_7 C g_h0 d_MD_beginNet_4 ?_
  refine j_icmp_ge C d_MD_beginNet_7 (tgt := 74) (by decide) (fun c7 => ?_) (fun c7 => ?_)
  · have h := h.1 c7
    exact j_vret C hr d_MD_beginNet_74 h
  · have h := h.2 c7
    refine j_aload_n C d_MD_beginNet_10 rfl 0 rfl ?_
    refine fg_MD_33 C g_h0 d_MD_beginNet_11 ?_
    refine j_iload_n C d_MD_beginNet_14 rfl 1 rfl ?_
    refine j_iconst C d_MD_beginNet_15 ic_0 ?_
    obtain ⟨hi, h⟩ := h
    refine j_iastore C (sh_MD_7 hE g_h0) hi d_MD_beginNet_16 ?_
    have h := h _ rfl
    generalize eI_1 : (jwr I (jr h0 7) v1.toNatClampNeg (0 : Int32) : jM) = I_1 at h ⊢
    refine j_iconst C d_MD_beginNet_17 ic_0 ?_
    refine j_istore_n C d_MD_beginNet_18 rfl (by decide) (lv' := [(2, .int (0 : Int32)), (0, .ref (E.2.2.1 h0)), (1, .int v1)]) rfl ?_
    refine j_lv [1, 2, 0] rfl ?_
    exact k_MD_beginNet_19 C hr hE h0 v1 (0 : Int32) I_1 g_h0 hX2 h
theorem k_MD_beginNet_2 {Z : jZ} {E : jE} (C : jC Z E prog_14_method_13_code 3 "OutOrderModel" 0 0) (hr : (jZh Z).sig.returnType = none) (hE : E.2.2.2 = jLM)  (h0 : Nat) (v1 : Int32) (I : jM) (g_h0 : jOB E 11 h0) {K : jM → Prop} (h : MD_beginNet_2 h0 v1 I K) : jJ Z E 3 (jQv Z E K) 2 [(0, .ref (E.2.2.1 h0)), (1, .int v1)] [] I := by
  unfold MD_beginNet_2 at h
  exact h (fun s => jJ Z E 3 (jQv Z E K) 2 [(0, .ref (E.2.2.1 h0)), (1, .int s.1)] [] s.2) (fun s hs => kb_MD_beginNet_2 C hr hE h0 s.1 s.2 g_h0 (fun s2 h2 => h2) hs)
/-- OutOrderModel.beginNet()V -/
def MD_beginNet (h0 : Nat) (I : jM) (K : jM → Prop) : Prop :=
  MD_beginNet_2 h0 (0 : Int32) I K
set_option maxRecDepth 100000 in
set_option maxHeartbeats 4000000 in
theorem s_MD_beginNet {l : Launch} {E : jE} (ok : jOK E) (hE : E.2.2.2 = jLM) {h0 : Nat} (g_h0 : jOB E 11 h0) {I : jM} {K : jM → Prop} (h : MD_beginNet h0 I K) : jSv l E ⟨"OutOrderModel", "beginNet", "()V"⟩ prog_14_method_13_code 3 none 0 0 [.ref (E.2.2.1 h0)] I K := by
  refine jS_ofF (own := "OutOrderModel") (by decide +kernel) rfl ok (Nat.le_of_ble_eq_true rfl) (fun Z _ C hr => ?_)
  show jJ Z E 3 (jQv Z E K) 0 [(0, .ref (E.2.2.1 h0))] [] I
  unfold MD_beginNet at h
  refine j_iconst C d_MD_beginNet_0 ic_0 ?_
  refine j_istore_n C d_MD_beginNet_1 rfl (by decide) (lv' := [(1, .int (0 : Int32)), (0, .ref (E.2.2.1 h0))]) rfl ?_
  refine j_lv [1, 0] rfl ?_
  exact k_MD_beginNet_2 C hr hE h0 (0 : Int32) I g_h0 h
theorem d_MD_begin_0 : decode prog_14_method_39_code 0 = .ok (.aload_n 0, 1) := by decide +kernel
theorem d_MD_begin_1 : decode prog_14_method_39_code 1 = .ok (.invokevirtual 100, 3) := by decide +kernel
theorem d_MD_begin_4 : decode prog_14_method_39_code 4 = .ok (.aload_n 0, 1) := by decide +kernel
theorem d_MD_begin_5 : decode prog_14_method_39_code 5 = .ok (.iconst 0, 1) := by decide +kernel
theorem d_MD_begin_6 : decode prog_14_method_39_code 6 = .ok (.putfield 161, 3) := by decide +kernel
theorem d_MD_begin_9 : decode prog_14_method_39_code 9 = .ok (.iconst 0, 1) := by decide +kernel
theorem d_MD_begin_10 : decode prog_14_method_39_code 10 = .ok (.istore_n 1, 1) := by decide +kernel
theorem d_MD_begin_11 : decode prog_14_method_39_code 11 = .ok (.iload_n 1, 1) := by decide +kernel
theorem d_MD_begin_12 : decode prog_14_method_39_code 12 = .ok (.aload_n 0, 1) := by decide +kernel
theorem d_MD_begin_13 : decode prog_14_method_39_code 13 = .ok (.getfield 7, 3) := by decide +kernel
theorem d_MD_begin_16 : decode prog_14_method_39_code 16 = .ok (.if_icmp .ge 21, 3) := by decide +kernel
theorem d_MD_begin_19 : decode prog_14_method_39_code 19 = .ok (.aload_n 0, 1) := by decide +kernel
theorem d_MD_begin_20 : decode prog_14_method_39_code 20 = .ok (.getfield 57, 3) := by decide +kernel
theorem d_MD_begin_23 : decode prog_14_method_39_code 23 = .ok (.iload_n 1, 1) := by decide +kernel
theorem d_MD_begin_24 : decode prog_14_method_39_code 24 = .ok (.aload_n 0, 1) := by decide +kernel
theorem d_MD_begin_25 : decode prog_14_method_39_code 25 = .ok (.getfield 33, 3) := by decide +kernel
theorem d_MD_begin_28 : decode prog_14_method_39_code 28 = .ok (.iload_n 1, 1) := by decide +kernel
theorem d_MD_begin_29 : decode prog_14_method_39_code 29 = .ok (.iaload, 1) := by decide +kernel
theorem d_MD_begin_30 : decode prog_14_method_39_code 30 = .ok (.iastore, 1) := by decide +kernel
theorem d_MD_begin_31 : decode prog_14_method_39_code 31 = .ok (.iinc 1 1, 3) := by decide +kernel
theorem d_MD_begin_34 : decode prog_14_method_39_code 34 = .ok (.goto (-23), 3) := by decide +kernel
theorem d_MD_begin_37 : decode prog_14_method_39_code 37 = .ok (.aload_n 0, 1) := by decide +kernel
theorem d_MD_begin_38 : decode prog_14_method_39_code 38 = .ok (.getfield 7, 3) := by decide +kernel
theorem d_MD_begin_41 : decode prog_14_method_39_code 41 = .ok (.ireturn, 1) := by decide +kernel
def MD_begin_11b (h0 : Nat) (v1 : Int32) (I : jM) (K : Int32 → jM → Prop) (X11 : Int32 × jM → Prop) : Prop :=
  (((I h0 0) ≤ v1 → K (I h0 0) I) ∧ (¬ (I h0 0) ≤ v1 → (vp_in v1 24 ∧ (vp_in v1 24 ∧ (∀ I_1 : jM, I_1 = jwr I (jr h0 17) v1.toNatClampNeg (I (jr h0 7) v1.toNatClampNeg) → X11 ((v1 + 1), I_1))))))
def MD_begin_11 (h0 : Nat) (v1 : Int32) (I : jM) (K : Int32 → jM → Prop) : Prop :=
  lp (fun (X11 : Int32 × jM → Prop) (s : Int32 × jM) => MD_begin_11b h0 s.1 s.2 K X11) (v1, I)
set_option maxRecDepth 100000 in
set_option maxHeartbeats 4000000 in
theorem kb_MD_begin_11 {Z : jZ} {E : jE} (C : jC Z E prog_14_method_39_code 2 "OutOrderModel" 1 22) (hr : (jZh Z).sig.returnType = (some .int)) (hE : E.2.2.2 = jLM)  (h0 : Nat) (v1 : Int32) (I : jM) (g_h0 : jOB E 11 h0) {K : Int32 → jM → Prop} {X11 : Int32 × jM → Prop} (hX11 : ∀ s : Int32 × jM, X11 s → jJ Z E 2 (jQi Z E K) 11 [(0, .ref (E.2.2.1 h0)), (1, .int s.1)] [] s.2) (h : MD_begin_11b h0 v1 I K X11) : jJ Z E 2 (jQi Z E K) 11 [(0, .ref (E.2.2.1 h0)), (1, .int v1)] [] I := by
  unfold MD_begin_11b at h
  refine j_iload_n C d_MD_begin_11 rfl 1 rfl ?_
  refine j_aload_n C d_MD_begin_12 rfl 0 rfl ?_
  refine fg_MD_7 C g_h0 d_MD_begin_13 ?_
  refine j_icmp_ge C d_MD_begin_16 (tgt := 37) (by decide) (fun c16 => ?_) (fun c16 => ?_)
  · have h := h.1 c16
    refine j_aload_n C d_MD_begin_37 rfl 0 rfl ?_
    refine fg_MD_7 C g_h0 d_MD_begin_38 ?_
    exact j_iret C hr d_MD_begin_41 h
  · have h := h.2 c16
    refine j_aload_n C d_MD_begin_19 rfl 0 rfl ?_
    refine fg_MD_57 C g_h0 d_MD_begin_20 ?_
    refine j_iload_n C d_MD_begin_23 rfl 1 rfl ?_
    refine j_aload_n C d_MD_begin_24 rfl 0 rfl ?_
    refine fg_MD_33 C g_h0 d_MD_begin_25 ?_
    refine j_iload_n C d_MD_begin_28 rfl 1 rfl ?_
    obtain ⟨hi, h⟩ := h
    refine j_iaload C (sh_MD_7 hE g_h0) hi d_MD_begin_29 ?_
    obtain ⟨hi, h⟩ := h
    refine j_iastore C (sh_MD_17 hE g_h0) hi d_MD_begin_30 ?_
    have h := h _ rfl
    generalize eI_1 : (jwr I (jr h0 17) v1.toNatClampNeg (I (jr h0 7) v1.toNatClampNeg) : jM) = I_1 at h ⊢
    refine j_iinc C d_MD_begin_31 1 rfl (v := (v1 + 1)) rfl (by decide) (lv' := [(1, .int (v1 + 1)), (0, .ref (E.2.2.1 h0))]) rfl ?_
    refine j_goto C d_MD_begin_34 (tgt := 11) (by decide) ?_
    refine j_lv [1, 0] rfl ?_
    exact hX11 ((v1 + 1), I_1) h
theorem k_MD_begin_11 {Z : jZ} {E : jE} (C : jC Z E prog_14_method_39_code 2 "OutOrderModel" 1 22) (hr : (jZh Z).sig.returnType = (some .int)) (hE : E.2.2.2 = jLM)  (h0 : Nat) (v1 : Int32) (I : jM) (g_h0 : jOB E 11 h0) {K : Int32 → jM → Prop} (h : MD_begin_11 h0 v1 I K) : jJ Z E 2 (jQi Z E K) 11 [(0, .ref (E.2.2.1 h0)), (1, .int v1)] [] I := by
  unfold MD_begin_11 at h
  exact h (fun s => jJ Z E 2 (jQi Z E K) 11 [(0, .ref (E.2.2.1 h0)), (1, .int s.1)] [] s.2) (fun s hs => kb_MD_begin_11 C hr hE h0 s.1 s.2 g_h0 (fun s2 h2 => h2) hs)
/-- OutOrderModel.begin()I -/
def MD_begin (h0 : Nat) (I : jM) (K : Int32 → jM → Prop) : Prop :=
  MD_beginNet h0 I (fun I_2 => (∀ I_3 : jM, I_3 = jwr I_2 h0 15 (0 : Int32) → MD_begin_11 h0 (0 : Int32) I_3 K))
set_option maxRecDepth 100000 in
set_option maxHeartbeats 4000000 in
theorem s_MD_begin {l : Launch} {E : jE} (ok : jOK E) (hE : E.2.2.2 = jLM) {h0 : Nat} (g_h0 : jOB E 11 h0) {I : jM} {K : Int32 → jM → Prop} (h : MD_begin h0 I K) : jSi l E ⟨"OutOrderModel", "begin", "()I"⟩ prog_14_method_39_code 2 (some .int) 1 22 [.ref (E.2.2.1 h0)] I K := by
  refine jS_ofF (own := "OutOrderModel") (by decide +kernel) rfl ok (Nat.le_of_ble_eq_true rfl) (fun Z _ C hr => ?_)
  show jJ Z E 2 (jQi Z E K) 0 [(0, .ref (E.2.2.1 h0))] [] I
  unfold MD_begin at h
  refine j_aload_n C d_MD_begin_0 rfl 0 rfl ?_
  refine j_callVv (As := []) C jcl_MD cw_MD_100 w_821 ws_25 g_h0 rfl rfl (by decide) (by decide) (Nat.le_of_ble_eq_true rfl) d_MD_begin_1 (s_MD_beginNet C.ok hE g_h0 h) (fun I_2 h => ?_)
  refine j_aload_n C d_MD_begin_4 rfl 0 rfl ?_
  refine j_iconst C d_MD_begin_5 ic_0 ?_
  refine fp_MD_161 C g_h0 d_MD_begin_6 ?_
  have h := h _ rfl
  generalize eI_3 : (jwr I_2 h0 15 (0 : Int32) : jM) = I_3 at h ⊢
  refine j_iconst C d_MD_begin_9 ic_0 ?_
  refine j_istore_n C d_MD_begin_10 rfl (by decide) (lv' := [(1, .int (0 : Int32)), (0, .ref (E.2.2.1 h0))]) rfl ?_
  refine j_lv [1, 0] rfl ?_
  exact k_MD_begin_11 C hr hE h0 (0 : Int32) I_3 g_h0 h
theorem d_MD_ones_0 : decode prog_14_method_6_code 0 = .ok (.iconst 0, 1) := by decide +kernel
theorem d_MD_ones_1 : decode prog_14_method_6_code 1 = .ok (.istore_n 1, 1) := by decide +kernel
theorem d_MD_ones_2 : decode prog_14_method_6_code 2 = .ok (.iload_n 0, 1) := by decide +kernel
theorem d_MD_ones_3 : decode prog_14_method_6_code 3 = .ok (.istore_n 2, 1) := by decide +kernel
theorem d_MD_ones_4 : decode prog_14_method_6_code 4 = .ok (.iload_n 2, 1) := by decide +kernel
theorem d_MD_ones_5 : decode prog_14_method_6_code 5 = .ok (.ifCond .eq 15, 3) := by decide +kernel
theorem d_MD_ones_8 : decode prog_14_method_6_code 8 = .ok (.iinc 1 1, 3) := by decide +kernel
theorem d_MD_ones_11 : decode prog_14_method_6_code 11 = .ok (.iload_n 2, 1) := by decide +kernel
theorem d_MD_ones_12 : decode prog_14_method_6_code 12 = .ok (.iload_n 2, 1) := by decide +kernel
theorem d_MD_ones_13 : decode prog_14_method_6_code 13 = .ok (.iconst 1, 1) := by decide +kernel
theorem d_MD_ones_14 : decode prog_14_method_6_code 14 = .ok (.isub, 1) := by decide +kernel
theorem d_MD_ones_15 : decode prog_14_method_6_code 15 = .ok (.iand, 1) := by decide +kernel
theorem d_MD_ones_16 : decode prog_14_method_6_code 16 = .ok (.istore_n 2, 1) := by decide +kernel
theorem d_MD_ones_17 : decode prog_14_method_6_code 17 = .ok (.goto (-13), 3) := by decide +kernel
theorem d_MD_ones_20 : decode prog_14_method_6_code 20 = .ok (.iload_n 1, 1) := by decide +kernel
theorem d_MD_ones_21 : decode prog_14_method_6_code 21 = .ok (.ireturn, 1) := by decide +kernel
def MD_ones_4b (v1 : Int32) (v2 : Int32) (I : jM) (K : Int32 → Prop) (X4 : Int32 × Int32 → Prop) : Prop :=
  ((v2 = 0 → K v1) ∧ (¬ v2 = 0 → (∀ v2_1 : Int32, v2_1 = (v2 &&& (v2 - (1 : Int32))) → X4 ((v1 + 1), v2_1))))
def MD_ones_4 (v1 : Int32) (v2 : Int32) (I : jM) (K : Int32 → Prop) : Prop :=
  lp (fun (X4 : Int32 × Int32 → Prop) (s : Int32 × Int32) => MD_ones_4b s.1 s.2 I K X4) (v1, v2)
set_option maxRecDepth 100000 in
set_option maxHeartbeats 4000000 in
theorem kb_MD_ones_4 {Z : jZ} {E : jE} (C : jC Z E prog_14_method_6_code 3 "OutOrderModel" 0 0) (hr : (jZh Z).sig.returnType = (some .int))  (v1 : Int32) (v2 : Int32) (I : jM) {K : Int32 → Prop} {X4 : Int32 × Int32 → Prop} (hX4 : ∀ s : Int32 × Int32, X4 s → jJ Z E 3 (jQi Z E (fun r I2 => I = I2 ∧ K r)) 4 [(1, .int s.1), (2, .int s.2)] [] I) (h : MD_ones_4b v1 v2 I K X4) : jJ Z E 3 (jQi Z E (fun r I2 => I = I2 ∧ K r)) 4 [(1, .int v1), (2, .int v2)] [] I := by
  unfold MD_ones_4b at h
  refine j_iload_n C d_MD_ones_4 rfl 1 rfl ?_
  refine j_if_eq C d_MD_ones_5 (tgt := 20) (by decide) (fun c5 => ?_) (fun c5 => ?_)
  · have h := h.1 c5
    refine j_iload_n C d_MD_ones_20 rfl 0 rfl ?_
    exact j_iret C hr d_MD_ones_21 ⟨rfl, h⟩
  · have h := h.2 c5
    refine j_iinc C d_MD_ones_8 0 rfl (v := (v1 + 1)) rfl (by decide) (lv' := [(1, .int (v1 + 1)), (2, .int v2)]) rfl ?_
    refine j_iload_n C d_MD_ones_11 rfl 1 rfl ?_
    refine j_iload_n C d_MD_ones_12 rfl 1 rfl ?_
    refine j_iconst C d_MD_ones_13 ic_1 ?_
    refine j_isub C d_MD_ones_14 ?_
    refine j_iand C d_MD_ones_15 ?_
    refine j_topi (fun v2_1 ev2_1 => ?_)
    have h := h v2_1 ev2_1
    refine j_istore_n C d_MD_ones_16 rfl (by decide) (lv' := [(2, .int v2_1), (1, .int (v1 + 1))]) rfl ?_
    refine j_goto C d_MD_ones_17 (tgt := 4) (by decide) ?_
    refine j_lv [1, 0] rfl ?_
    exact hX4 ((v1 + 1), v2_1) h
theorem k_MD_ones_4 {Z : jZ} {E : jE} (C : jC Z E prog_14_method_6_code 3 "OutOrderModel" 0 0) (hr : (jZh Z).sig.returnType = (some .int))  (v1 : Int32) (v2 : Int32) (I : jM) {K : Int32 → Prop} (h : MD_ones_4 v1 v2 I K) : jJ Z E 3 (jQi Z E (fun r I2 => I = I2 ∧ K r)) 4 [(1, .int v1), (2, .int v2)] [] I := by
  unfold MD_ones_4 at h
  exact h (fun s => jJ Z E 3 (jQi Z E (fun r I2 => I = I2 ∧ K r)) 4 [(1, .int s.1), (2, .int s.2)] [] I) (fun s hs => kb_MD_ones_4 C hr s.1 s.2 I  (fun s2 h2 => h2) hs)
/-- OutOrderModel.ones(I)I -/
def MD_ones (v0 : Int32) (I : jM) (K : Int32 → Prop) : Prop :=
  MD_ones_4 (0 : Int32) v0 I K
set_option maxRecDepth 100000 in
set_option maxHeartbeats 4000000 in
theorem s_MD_ones {l : Launch} {E : jE} (ok : jOK E)  {v0 : Int32} {I : jM} {K : Int32 → Prop} (h : MD_ones v0 I K) : jSi l E ⟨"OutOrderModel", "ones", "(I)I"⟩ prog_14_method_6_code 3 (some .int) 0 0 [.int v0] I (fun r I2 => I = I2 ∧ K r) := by
  refine jS_ofF (own := "OutOrderModel") (by decide +kernel) rfl ok (Nat.le_of_ble_eq_true rfl) (fun Z _ C hr => ?_)
  show jJ Z E 3 (jQi Z E (fun r I2 => I = I2 ∧ K r)) 0 [(0, .int v0)] [] I
  unfold MD_ones at h
  refine j_iconst C d_MD_ones_0 ic_0 ?_
  refine j_istore_n C d_MD_ones_1 rfl (by decide) (lv' := [(1, .int (0 : Int32)), (0, .int v0)]) rfl ?_
  refine j_iload_n C d_MD_ones_2 rfl 1 rfl ?_
  refine j_istore_n C d_MD_ones_3 rfl (by decide) (lv' := [(2, .int v0), (1, .int (0 : Int32)), (0, .int v0)]) rfl ?_
  refine j_lv [1, 0] rfl ?_
  exact k_MD_ones_4 C hr (0 : Int32) v0 I  h
theorem d_MD_fillsOf_0 : decode prog_14_method_14_code 0 = .ok (.iconst 0, 1) := by decide +kernel
theorem d_MD_fillsOf_1 : decode prog_14_method_14_code 1 = .ok (.istore_n 2, 1) := by decide +kernel
theorem d_MD_fillsOf_2 : decode prog_14_method_14_code 2 = .ok (.iconst 0, 1) := by decide +kernel
theorem d_MD_fillsOf_3 : decode prog_14_method_14_code 3 = .ok (.istore_n 3, 1) := by decide +kernel
theorem d_MD_fillsOf_4 : decode prog_14_method_14_code 4 = .ok (.iload_n 3, 1) := by decide +kernel
theorem d_MD_fillsOf_5 : decode prog_14_method_14_code 5 = .ok (.bipush 24, 2) := by decide +kernel
theorem d_MD_fillsOf_7 : decode prog_14_method_14_code 7 = .ok (.if_icmp .ge 41, 3) := by decide +kernel
theorem d_MD_fillsOf_10 : decode prog_14_method_14_code 10 = .ok (.iload_n 2, 1) := by decide +kernel
theorem d_MD_fillsOf_11 : decode prog_14_method_14_code 11 = .ok (.iload_n 1, 1) := by decide +kernel
theorem d_MD_fillsOf_12 : decode prog_14_method_14_code 12 = .ok (.iload_n 3, 1) := by decide +kernel
theorem d_MD_fillsOf_13 : decode prog_14_method_14_code 13 = .ok (.ishr, 1) := by decide +kernel
theorem d_MD_fillsOf_14 : decode prog_14_method_14_code 14 = .ok (.iconst 1, 1) := by decide +kernel
theorem d_MD_fillsOf_15 : decode prog_14_method_14_code 15 = .ok (.iand, 1) := by decide +kernel
theorem d_MD_fillsOf_16 : decode prog_14_method_14_code 16 = .ok (.iconst 1, 1) := by decide +kernel
theorem d_MD_fillsOf_17 : decode prog_14_method_14_code 17 = .ok (.if_icmp .ne 22, 3) := by decide +kernel
theorem d_MD_fillsOf_20 : decode prog_14_method_14_code 20 = .ok (.iload_n 1, 1) := by decide +kernel
theorem d_MD_fillsOf_21 : decode prog_14_method_14_code 21 = .ok (.aload_n 0, 1) := by decide +kernel
theorem d_MD_fillsOf_22 : decode prog_14_method_14_code 22 = .ok (.iload_n 3, 1) := by decide +kernel
theorem d_MD_fillsOf_23 : decode prog_14_method_14_code 23 = .ok (.iaload, 1) := by decide +kernel
theorem d_MD_fillsOf_24 : decode prog_14_method_14_code 24 = .ok (.iconst (-1), 1) := by decide +kernel
theorem d_MD_fillsOf_25 : decode prog_14_method_14_code 25 = .ok (.ixor, 1) := by decide +kernel
theorem d_MD_fillsOf_26 : decode prog_14_method_14_code 26 = .ok (.iand, 1) := by decide +kernel
theorem d_MD_fillsOf_27 : decode prog_14_method_14_code 27 = .ok (.iconst 1, 1) := by decide +kernel
theorem d_MD_fillsOf_28 : decode prog_14_method_14_code 28 = .ok (.iload_n 3, 1) := by decide +kernel
theorem d_MD_fillsOf_29 : decode prog_14_method_14_code 29 = .ok (.ishl, 1) := by decide +kernel
theorem d_MD_fillsOf_30 : decode prog_14_method_14_code 30 = .ok (.iconst (-1), 1) := by decide +kernel
theorem d_MD_fillsOf_31 : decode prog_14_method_14_code 31 = .ok (.ixor, 1) := by decide +kernel
theorem d_MD_fillsOf_32 : decode prog_14_method_14_code 32 = .ok (.iand, 1) := by decide +kernel
theorem d_MD_fillsOf_33 : decode prog_14_method_14_code 33 = .ok (.invokestatic 98, 3) := by decide +kernel
theorem d_MD_fillsOf_36 : decode prog_14_method_14_code 36 = .ok (.goto 4, 3) := by decide +kernel
theorem d_MD_fillsOf_39 : decode prog_14_method_14_code 39 = .ok (.iconst 0, 1) := by decide +kernel
theorem d_MD_fillsOf_40 : decode prog_14_method_14_code 40 = .ok (.iadd, 1) := by decide +kernel
theorem d_MD_fillsOf_41 : decode prog_14_method_14_code 41 = .ok (.istore_n 2, 1) := by decide +kernel
theorem d_MD_fillsOf_42 : decode prog_14_method_14_code 42 = .ok (.iinc 3 1, 3) := by decide +kernel
theorem d_MD_fillsOf_45 : decode prog_14_method_14_code 45 = .ok (.goto (-41), 3) := by decide +kernel
theorem d_MD_fillsOf_48 : decode prog_14_method_14_code 48 = .ok (.iload_n 2, 1) := by decide +kernel
theorem d_MD_fillsOf_49 : decode prog_14_method_14_code 49 = .ok (.iconst 2, 1) := by decide +kernel
theorem d_MD_fillsOf_50 : decode prog_14_method_14_code 50 = .ok (.idiv, 1) := by decide +kernel
theorem d_MD_fillsOf_51 : decode prog_14_method_14_code 51 = .ok (.ireturn, 1) := by decide +kernel
def MD_fillsOf_4b (h0 : Nat) (v1 : Int32) (v2 : Int32) (v3 : Int32) (I : jM) (K : Int32 → Prop) (X4 : Int32 × Int32 → Prop) : Prop :=
  (((24 : Int32) ≤ v3 → K (v2 / (2 : Int32))) ∧ (¬ (24 : Int32) ≤ v3 → ((¬ ((v1 >>> (v3 &&& 31)) &&& (1 : Int32)) = (1 : Int32) → (∀ v2_1 : Int32, v2_1 = (v2 + (0 : Int32)) → X4 (v2_1, (v3 + 1)))) ∧ (((v1 >>> (v3 &&& 31)) &&& (1 : Int32)) = (1 : Int32) → (vp_in v3 (jl h0) ∧ MD_ones ((v1 &&& ((I h0 v3.toNatClampNeg) ^^^ (-1 : Int32))) &&& (((1 : Int32) <<< (v3 &&& 31)) ^^^ (-1 : Int32))) I (fun r_2 => (∀ v2_3 : Int32, v2_3 = (v2 + r_2) → X4 (v2_3, (v3 + 1)))))))))
def MD_fillsOf_4 (h0 : Nat) (v1 : Int32) (v2 : Int32) (v3 : Int32) (I : jM) (K : Int32 → Prop) : Prop :=
  lp (fun (X4 : Int32 × Int32 → Prop) (s : Int32 × Int32) => MD_fillsOf_4b h0 v1 s.1 s.2 I K X4) (v2, v3)
set_option maxRecDepth 100000 in
set_option maxHeartbeats 4000000 in
theorem kb_MD_fillsOf_4 {Z : jZ} {E : jE} (C : jC Z E prog_14_method_14_code 4 "OutOrderModel" 1 22) (hr : (jZh Z).sig.returnType = (some .int))  (h0 : Nat) (v1 : Int32) (v2 : Int32) (v3 : Int32) (I : jM) (g_h0 : jAI E (jl h0) h0) {K : Int32 → Prop} {X4 : Int32 × Int32 → Prop} (hX4 : ∀ s : Int32 × Int32, X4 s → jJ Z E 4 (jQi Z E (fun r I2 => I = I2 ∧ K r)) 4 [(0, .ref (E.2.2.1 h0)), (1, .int v1), (2, .int s.1), (3, .int s.2)] [] I) (h : MD_fillsOf_4b h0 v1 v2 v3 I K X4) : jJ Z E 4 (jQi Z E (fun r I2 => I = I2 ∧ K r)) 4 [(0, .ref (E.2.2.1 h0)), (1, .int v1), (2, .int v2), (3, .int v3)] [] I := by
  unfold MD_fillsOf_4b at h
  refine j_iload_n C d_MD_fillsOf_4 rfl 3 rfl ?_
  refine j_bipush C d_MD_fillsOf_5 ib_24 ?_
  refine j_icmp_ge C d_MD_fillsOf_7 (tgt := 48) (by decide) (fun c7 => ?_) (fun c7 => ?_)
  · have h := h.1 c7
    refine j_iload_n C d_MD_fillsOf_48 rfl 2 rfl ?_
    refine j_iconst C d_MD_fillsOf_49 ic_2 ?_
    refine j_idiv C d_MD_fillsOf_50 (by decide) ?_
    exact j_iret C hr d_MD_fillsOf_51 ⟨rfl, h⟩
  · have h := h.2 c7
    refine j_iload_n C d_MD_fillsOf_10 rfl 2 rfl ?_
    refine j_iload_n C d_MD_fillsOf_11 rfl 1 rfl ?_
    refine j_iload_n C d_MD_fillsOf_12 rfl 3 rfl ?_
    refine j_ishr C d_MD_fillsOf_13 ?_
    refine j_iconst C d_MD_fillsOf_14 ic_1 ?_
    refine j_iand C d_MD_fillsOf_15 ?_
    refine j_iconst C d_MD_fillsOf_16 ic_1 ?_
    refine j_icmp_ne C d_MD_fillsOf_17 (tgt := 39) (by decide) (fun c17 => ?_) (fun c17 => ?_)
    · have h := h.1 c17
      refine j_iconst C d_MD_fillsOf_39 ic_0 ?_
      refine j_iadd C d_MD_fillsOf_40 ?_
      refine j_topi (fun v2_1 ev2_1 => ?_)
      have h := h v2_1 ev2_1
      refine j_istore_n C d_MD_fillsOf_41 rfl (by decide) (lv' := [(2, .int v2_1), (0, .ref (E.2.2.1 h0)), (1, .int v1), (3, .int v3)]) rfl ?_
      refine j_iinc C d_MD_fillsOf_42 3 rfl (v := (v3 + 1)) rfl (by decide) (lv' := [(3, .int (v3 + 1)), (2, .int v2_1), (0, .ref (E.2.2.1 h0)), (1, .int v1)]) rfl ?_
      refine j_goto C d_MD_fillsOf_45 (tgt := 4) (by decide) ?_
      refine j_lv [2, 3, 1, 0] rfl ?_
      exact hX4 (v2_1, (v3 + 1)) h
    · have h := h.2 c17
      refine j_iload_n C d_MD_fillsOf_20 rfl 1 rfl ?_
      refine j_aload_n C d_MD_fillsOf_21 rfl 0 rfl ?_
      refine j_iload_n C d_MD_fillsOf_22 rfl 3 rfl ?_
      obtain ⟨hi, h⟩ := h
      refine j_iaload C g_h0 hi d_MD_fillsOf_23 ?_
      refine j_iconst C d_MD_fillsOf_24 ic_m1 ?_
      refine j_ixor C d_MD_fillsOf_25 ?_
      refine j_iand C d_MD_fillsOf_26 ?_
      refine j_iconst C d_MD_fillsOf_27 ic_1 ?_
      refine j_iload_n C d_MD_fillsOf_28 rfl 3 rfl ?_
      refine j_ishl C d_MD_fillsOf_29 ?_
      refine j_iconst C d_MD_fillsOf_30 ic_m1 ?_
      refine j_ixor C d_MD_fillsOf_31 ?_
      refine j_iand C d_MD_fillsOf_32 ?_
      refine j_callSi (As := [.int ((v1 &&& ((I h0 v3.toNatClampNeg) ^^^ (-1 : Int32))) &&& (((1 : Int32) <<< (v3 &&& 31)) ^^^ (-1 : Int32)))]) C cw_MD_98 w_866 rfl rfl (by decide) (by decide) (Nat.le_of_ble_eq_true rfl) d_MD_fillsOf_33 (s_MD_ones C.ok  h) (fun r_2 I2 h => ?_)
      obtain ⟨rfl, h⟩ := h
      refine j_goto C d_MD_fillsOf_36 (tgt := 40) (by decide) ?_
      refine j_iadd C d_MD_fillsOf_40 ?_
      refine j_topi (fun v2_3 ev2_3 => ?_)
      have h := h v2_3 ev2_3
      refine j_istore_n C d_MD_fillsOf_41 rfl (by decide) (lv' := [(2, .int v2_3), (0, .ref (E.2.2.1 h0)), (1, .int v1), (3, .int v3)]) rfl ?_
      refine j_iinc C d_MD_fillsOf_42 3 rfl (v := (v3 + 1)) rfl (by decide) (lv' := [(3, .int (v3 + 1)), (2, .int v2_3), (0, .ref (E.2.2.1 h0)), (1, .int v1)]) rfl ?_
      refine j_goto C d_MD_fillsOf_45 (tgt := 4) (by decide) ?_
      refine j_lv [2, 3, 1, 0] rfl ?_
      exact hX4 (v2_3, (v3 + 1)) h
theorem k_MD_fillsOf_4 {Z : jZ} {E : jE} (C : jC Z E prog_14_method_14_code 4 "OutOrderModel" 1 22) (hr : (jZh Z).sig.returnType = (some .int))  (h0 : Nat) (v1 : Int32) (v2 : Int32) (v3 : Int32) (I : jM) (g_h0 : jAI E (jl h0) h0) {K : Int32 → Prop} (h : MD_fillsOf_4 h0 v1 v2 v3 I K) : jJ Z E 4 (jQi Z E (fun r I2 => I = I2 ∧ K r)) 4 [(0, .ref (E.2.2.1 h0)), (1, .int v1), (2, .int v2), (3, .int v3)] [] I := by
  unfold MD_fillsOf_4 at h
  exact h (fun s => jJ Z E 4 (jQi Z E (fun r I2 => I = I2 ∧ K r)) 4 [(0, .ref (E.2.2.1 h0)), (1, .int v1), (2, .int s.1), (3, .int s.2)] [] I) (fun s hs => kb_MD_fillsOf_4 C hr h0 v1 s.1 s.2 I g_h0 (fun s2 h2 => h2) hs)
/-- OutOrderModel.fillsOf([II)I -/
def MD_fillsOf (h0 : Nat) (v1 : Int32) (I : jM) (K : Int32 → Prop) : Prop :=
  MD_fillsOf_4 h0 v1 (0 : Int32) (0 : Int32) I K
set_option maxRecDepth 100000 in
set_option maxHeartbeats 4000000 in
theorem s_MD_fillsOf {l : Launch} {E : jE} (ok : jOK E)  {h0 : Nat} {v1 : Int32} (g_h0 : jAI E (jl h0) h0) {I : jM} {K : Int32 → Prop} (h : MD_fillsOf h0 v1 I K) : jSi l E ⟨"OutOrderModel", "fillsOf", "([II)I"⟩ prog_14_method_14_code 4 (some .int) 1 22 [.ref (E.2.2.1 h0), .int v1] I (fun r I2 => I = I2 ∧ K r) := by
  refine jS_ofF (own := "OutOrderModel") (by decide +kernel) rfl ok (Nat.le_of_ble_eq_true rfl) (fun Z _ C hr => ?_)
  show jJ Z E 4 (jQi Z E (fun r I2 => I = I2 ∧ K r)) 0 [(0, .ref (E.2.2.1 h0)), (1, .int v1)] [] I
  unfold MD_fillsOf at h
  refine j_iconst C d_MD_fillsOf_0 ic_0 ?_
  refine j_istore_n C d_MD_fillsOf_1 rfl (by decide) (lv' := [(2, .int (0 : Int32)), (0, .ref (E.2.2.1 h0)), (1, .int v1)]) rfl ?_
  refine j_iconst C d_MD_fillsOf_2 ic_0 ?_
  refine j_istore_n C d_MD_fillsOf_3 rfl (by decide) (lv' := [(3, .int (0 : Int32)), (2, .int (0 : Int32)), (0, .ref (E.2.2.1 h0)), (1, .int v1)]) rfl ?_
  refine j_lv [2, 3, 1, 0] rfl ?_
  exact k_MD_fillsOf_4 C hr h0 v1 (0 : Int32) (0 : Int32) I g_h0 h
theorem d_MD_joinAll_0 : decode prog_14_method_15_code 0 = .ok (.iconst 0, 1) := by decide +kernel
theorem d_MD_joinAll_1 : decode prog_14_method_15_code 1 = .ok (.istore_n 2, 1) := by decide +kernel
theorem d_MD_joinAll_2 : decode prog_14_method_15_code 2 = .ok (.iload_n 2, 1) := by decide +kernel
theorem d_MD_joinAll_3 : decode prog_14_method_15_code 3 = .ok (.bipush 24, 2) := by decide +kernel
theorem d_MD_joinAll_5 : decode prog_14_method_15_code 5 = .ok (.if_icmp .ge 31, 3) := by decide +kernel
theorem d_MD_joinAll_8 : decode prog_14_method_15_code 8 = .ok (.iload_n 1, 1) := by decide +kernel
theorem d_MD_joinAll_9 : decode prog_14_method_15_code 9 = .ok (.iload_n 2, 1) := by decide +kernel
theorem d_MD_joinAll_10 : decode prog_14_method_15_code 10 = .ok (.ishr, 1) := by decide +kernel
theorem d_MD_joinAll_11 : decode prog_14_method_15_code 11 = .ok (.iconst 1, 1) := by decide +kernel
theorem d_MD_joinAll_12 : decode prog_14_method_15_code 12 = .ok (.iand, 1) := by decide +kernel
theorem d_MD_joinAll_13 : decode prog_14_method_15_code 13 = .ok (.iconst 1, 1) := by decide +kernel
theorem d_MD_joinAll_14 : decode prog_14_method_15_code 14 = .ok (.if_icmp .ne 16, 3) := by decide +kernel
theorem d_MD_joinAll_17 : decode prog_14_method_15_code 17 = .ok (.aload_n 0, 1) := by decide +kernel
theorem d_MD_joinAll_18 : decode prog_14_method_15_code 18 = .ok (.iload_n 2, 1) := by decide +kernel
theorem d_MD_joinAll_19 : decode prog_14_method_15_code 19 = .ok (.dup2, 1) := by decide +kernel
theorem d_MD_joinAll_20 : decode prog_14_method_15_code 20 = .ok (.iaload, 1) := by decide +kernel
theorem d_MD_joinAll_21 : decode prog_14_method_15_code 21 = .ok (.iload_n 1, 1) := by decide +kernel
theorem d_MD_joinAll_22 : decode prog_14_method_15_code 22 = .ok (.iconst 1, 1) := by decide +kernel
theorem d_MD_joinAll_23 : decode prog_14_method_15_code 23 = .ok (.iload_n 2, 1) := by decide +kernel
theorem d_MD_joinAll_24 : decode prog_14_method_15_code 24 = .ok (.ishl, 1) := by decide +kernel
theorem d_MD_joinAll_25 : decode prog_14_method_15_code 25 = .ok (.iconst (-1), 1) := by decide +kernel
theorem d_MD_joinAll_26 : decode prog_14_method_15_code 26 = .ok (.ixor, 1) := by decide +kernel
theorem d_MD_joinAll_27 : decode prog_14_method_15_code 27 = .ok (.iand, 1) := by decide +kernel
theorem d_MD_joinAll_28 : decode prog_14_method_15_code 28 = .ok (.ior, 1) := by decide +kernel
theorem d_MD_joinAll_29 : decode prog_14_method_15_code 29 = .ok (.iastore, 1) := by decide +kernel
theorem d_MD_joinAll_30 : decode prog_14_method_15_code 30 = .ok (.iinc 2 1, 3) := by decide +kernel
theorem d_MD_joinAll_33 : decode prog_14_method_15_code 33 = .ok (.goto (-31), 3) := by decide +kernel
theorem d_MD_joinAll_36 : decode prog_14_method_15_code 36 = .ok (.return_, 1) := by decide +kernel
def MD_joinAll_2b (h0 : Nat) (v1 : Int32) (v2 : Int32) (I : jM) (K : jM → Prop) (X2 : Int32 × jM → Prop) : Prop :=
  (((24 : Int32) ≤ v2 → K I) ∧ (¬ (24 : Int32) ≤ v2 → ((¬ ((v1 >>> (v2 &&& 31)) &&& (1 : Int32)) = (1 : Int32) → X2 ((v2 + 1), I)) ∧ (((v1 >>> (v2 &&& 31)) &&& (1 : Int32)) = (1 : Int32) → (vp_in v2 (jl h0) ∧ (vp_in v2 (jl h0) ∧ (∀ I_1 : jM, I_1 = jwr I h0 v2.toNatClampNeg ((I h0 v2.toNatClampNeg) ||| (v1 &&& (((1 : Int32) <<< (v2 &&& 31)) ^^^ (-1 : Int32)))) → X2 ((v2 + 1), I_1))))))))
def MD_joinAll_2 (h0 : Nat) (v1 : Int32) (v2 : Int32) (I : jM) (K : jM → Prop) : Prop :=
  lp (fun (X2 : Int32 × jM → Prop) (s : Int32 × jM) => MD_joinAll_2b h0 v1 s.1 s.2 K X2) (v2, I)
set_option maxRecDepth 100000 in
set_option maxHeartbeats 4000000 in
theorem kb_MD_joinAll_2 {Z : jZ} {E : jE} (C : jC Z E prog_14_method_15_code 3 "OutOrderModel" 0 0) (hr : (jZh Z).sig.returnType = none)  (h0 : Nat) (v1 : Int32) (v2 : Int32) (I : jM) (g_h0 : jAI E (jl h0) h0) {K : jM → Prop} {X2 : Int32 × jM → Prop} (hX2 : ∀ s : Int32 × jM, X2 s → jJ Z E 3 (jQv Z E K) 2 [(0, .ref (E.2.2.1 h0)), (1, .int v1), (2, .int s.1)] [] s.2) (h : MD_joinAll_2b h0 v1 v2 I K X2) : jJ Z E 3 (jQv Z E K) 2 [(0, .ref (E.2.2.1 h0)), (1, .int v1), (2, .int v2)] [] I := by
  unfold MD_joinAll_2b at h
  refine j_iload_n C d_MD_joinAll_2 rfl 2 rfl ?_
  refine j_bipush C d_MD_joinAll_3 ib_24 ?_
  refine j_icmp_ge C d_MD_joinAll_5 (tgt := 36) (by decide) (fun c5 => ?_) (fun c5 => ?_)
  · have h := h.1 c5
    exact j_vret C hr d_MD_joinAll_36 h
  · have h := h.2 c5
    refine j_iload_n C d_MD_joinAll_8 rfl 1 rfl ?_
    refine j_iload_n C d_MD_joinAll_9 rfl 2 rfl ?_
    refine j_ishr C d_MD_joinAll_10 ?_
    refine j_iconst C d_MD_joinAll_11 ic_1 ?_
    refine j_iand C d_MD_joinAll_12 ?_
    refine j_iconst C d_MD_joinAll_13 ic_1 ?_
    refine j_icmp_ne C d_MD_joinAll_14 (tgt := 30) (by decide) (fun c14 => ?_) (fun c14 => ?_)
    · have h := h.1 c14
      refine j_iinc C d_MD_joinAll_30 2 rfl (v := (v2 + 1)) rfl (by decide) (lv' := [(2, .int (v2 + 1)), (0, .ref (E.2.2.1 h0)), (1, .int v1)]) rfl ?_
      refine j_goto C d_MD_joinAll_33 (tgt := 2) (by decide) ?_
      refine j_lv [1, 2, 0] rfl ?_
      exact hX2 ((v2 + 1), I) h
    · have h := h.2 c14
      refine j_aload_n C d_MD_joinAll_17 rfl 0 rfl ?_
      refine j_iload_n C d_MD_joinAll_18 rfl 2 rfl ?_
      refine j_dup2 C d_MD_joinAll_19 rfl rfl ?_
      obtain ⟨hi, h⟩ := h
      refine j_iaload C g_h0 hi d_MD_joinAll_20 ?_
      refine j_iload_n C d_MD_joinAll_21 rfl 1 rfl ?_
      refine j_iconst C d_MD_joinAll_22 ic_1 ?_
      refine j_iload_n C d_MD_joinAll_23 rfl 2 rfl ?_
      refine j_ishl C d_MD_joinAll_24 ?_
      refine j_iconst C d_MD_joinAll_25 ic_m1 ?_
      refine j_ixor C d_MD_joinAll_26 ?_
      refine j_iand C d_MD_joinAll_27 ?_
      refine j_ior C d_MD_joinAll_28 ?_
      obtain ⟨hi, h⟩ := h
      refine j_iastore C g_h0 hi d_MD_joinAll_29 ?_
      have h := h _ rfl
      generalize eI_1 : (jwr I h0 v2.toNatClampNeg ((I h0 v2.toNatClampNeg) ||| (v1 &&& (((1 : Int32) <<< (v2 &&& 31)) ^^^ (-1 : Int32)))) : jM) = I_1 at h ⊢
      refine j_iinc C d_MD_joinAll_30 2 rfl (v := (v2 + 1)) rfl (by decide) (lv' := [(2, .int (v2 + 1)), (0, .ref (E.2.2.1 h0)), (1, .int v1)]) rfl ?_
      refine j_goto C d_MD_joinAll_33 (tgt := 2) (by decide) ?_
      refine j_lv [1, 2, 0] rfl ?_
      exact hX2 ((v2 + 1), I_1) h
theorem k_MD_joinAll_2 {Z : jZ} {E : jE} (C : jC Z E prog_14_method_15_code 3 "OutOrderModel" 0 0) (hr : (jZh Z).sig.returnType = none)  (h0 : Nat) (v1 : Int32) (v2 : Int32) (I : jM) (g_h0 : jAI E (jl h0) h0) {K : jM → Prop} (h : MD_joinAll_2 h0 v1 v2 I K) : jJ Z E 3 (jQv Z E K) 2 [(0, .ref (E.2.2.1 h0)), (1, .int v1), (2, .int v2)] [] I := by
  unfold MD_joinAll_2 at h
  exact h (fun s => jJ Z E 3 (jQv Z E K) 2 [(0, .ref (E.2.2.1 h0)), (1, .int v1), (2, .int s.1)] [] s.2) (fun s hs => kb_MD_joinAll_2 C hr h0 v1 s.1 s.2 g_h0 (fun s2 h2 => h2) hs)
/-- OutOrderModel.joinAll([II)V -/
def MD_joinAll (h0 : Nat) (v1 : Int32) (I : jM) (K : jM → Prop) : Prop :=
  MD_joinAll_2 h0 v1 (0 : Int32) I K
set_option maxRecDepth 100000 in
set_option maxHeartbeats 4000000 in
theorem s_MD_joinAll {l : Launch} {E : jE} (ok : jOK E)  {h0 : Nat} {v1 : Int32} (g_h0 : jAI E (jl h0) h0) {I : jM} {K : jM → Prop} (h : MD_joinAll h0 v1 I K) : jSv l E ⟨"OutOrderModel", "joinAll", "([II)V"⟩ prog_14_method_15_code 3 none 0 0 [.ref (E.2.2.1 h0), .int v1] I K := by
  refine jS_ofF (own := "OutOrderModel") (by decide +kernel) rfl ok (Nat.le_of_ble_eq_true rfl) (fun Z _ C hr => ?_)
  show jJ Z E 3 (jQv Z E K) 0 [(0, .ref (E.2.2.1 h0)), (1, .int v1)] [] I
  unfold MD_joinAll at h
  refine j_iconst C d_MD_joinAll_0 ic_0 ?_
  refine j_istore_n C d_MD_joinAll_1 rfl (by decide) (lv' := [(2, .int (0 : Int32)), (0, .ref (E.2.2.1 h0)), (1, .int v1)]) rfl ?_
  refine j_lv [1, 2, 0] rfl ?_
  exact k_MD_joinAll_2 C hr h0 v1 (0 : Int32) I g_h0 h
theorem d_MD_byFewest_0 : decode prog_14_method_18_code 0 = .ok (.aload_n 0, 1) := by decide +kernel
theorem d_MD_byFewest_1 : decode prog_14_method_18_code 1 = .ok (.invokevirtual 100, 3) := by decide +kernel
theorem d_MD_byFewest_4 : decode prog_14_method_18_code 4 = .ok (.iconst 1, 1) := by decide +kernel
theorem d_MD_byFewest_5 : decode prog_14_method_18_code 5 = .ok (.aload_n 0, 1) := by decide +kernel
theorem d_MD_byFewest_6 : decode prog_14_method_18_code 6 = .ok (.getfield 7, 3) := by decide +kernel
theorem d_MD_byFewest_9 : decode prog_14_method_18_code 9 = .ok (.ishl, 1) := by decide +kernel
theorem d_MD_byFewest_10 : decode prog_14_method_18_code 10 = .ok (.iconst 1, 1) := by decide +kernel
theorem d_MD_byFewest_11 : decode prog_14_method_18_code 11 = .ok (.isub, 1) := by decide +kernel
theorem d_MD_byFewest_12 : decode prog_14_method_18_code 12 = .ok (.istore_n 2, 1) := by decide +kernel
theorem d_MD_byFewest_13 : decode prog_14_method_18_code 13 = .ok (.iconst 0, 1) := by decide +kernel
theorem d_MD_byFewest_14 : decode prog_14_method_18_code 14 = .ok (.istore_n 3, 1) := by decide +kernel
theorem d_MD_byFewest_15 : decode prog_14_method_18_code 15 = .ok (.iload_n 3, 1) := by decide +kernel
theorem d_MD_byFewest_16 : decode prog_14_method_18_code 16 = .ok (.aload_n 0, 1) := by decide +kernel
theorem d_MD_byFewest_17 : decode prog_14_method_18_code 17 = .ok (.getfield 7, 3) := by decide +kernel
theorem d_MD_byFewest_20 : decode prog_14_method_18_code 20 = .ok (.if_icmp .ge 210, 3) := by decide +kernel
theorem d_MD_byFewest_23 : decode prog_14_method_18_code 23 = .ok (.iconst 0, 1) := by decide +kernel
theorem d_MD_byFewest_24 : decode prog_14_method_18_code 24 = .ok (.istore 4, 2) := by decide +kernel
theorem d_MD_byFewest_26 : decode prog_14_method_18_code 26 = .ok (.iconst 0, 1) := by decide +kernel
theorem d_MD_byFewest_27 : decode prog_14_method_18_code 27 = .ok (.istore 5, 2) := by decide +kernel
theorem d_MD_byFewest_29 : decode prog_14_method_18_code 29 = .ok (.iload 5, 2) := by decide +kernel
theorem d_MD_byFewest_31 : decode prog_14_method_18_code 31 = .ok (.aload_n 0, 1) := by decide +kernel
theorem d_MD_byFewest_32 : decode prog_14_method_18_code 32 = .ok (.getfield 7, 3) := by decide +kernel
theorem d_MD_byFewest_35 : decode prog_14_method_18_code 35 = .ok (.if_icmp .ge 41, 3) := by decide +kernel
theorem d_MD_byFewest_38 : decode prog_14_method_18_code 38 = .ok (.iload 4, 2) := by decide +kernel
theorem d_MD_byFewest_40 : decode prog_14_method_18_code 40 = .ok (.ifCond .ne 23, 3) := by decide +kernel
theorem d_MD_byFewest_43 : decode prog_14_method_18_code 43 = .ok (.iload_n 2, 1) := by decide +kernel
theorem d_MD_byFewest_44 : decode prog_14_method_18_code 44 = .ok (.iload 5, 2) := by decide +kernel
theorem d_MD_byFewest_46 : decode prog_14_method_18_code 46 = .ok (.ishr, 1) := by decide +kernel
theorem d_MD_byFewest_47 : decode prog_14_method_18_code 47 = .ok (.iconst 1, 1) := by decide +kernel
theorem d_MD_byFewest_48 : decode prog_14_method_18_code 48 = .ok (.iand, 1) := by decide +kernel
theorem d_MD_byFewest_49 : decode prog_14_method_18_code 49 = .ok (.iconst 1, 1) := by decide +kernel
theorem d_MD_byFewest_50 : decode prog_14_method_18_code 50 = .ok (.if_icmp .ne 17, 3) := by decide +kernel
theorem d_MD_byFewest_53 : decode prog_14_method_18_code 53 = .ok (.aload_n 0, 1) := by decide +kernel
theorem d_MD_byFewest_54 : decode prog_14_method_18_code 54 = .ok (.getfield 20, 3) := by decide +kernel
theorem d_MD_byFewest_57 : decode prog_14_method_18_code 57 = .ok (.iload 5, 2) := by decide +kernel
theorem d_MD_byFewest_59 : decode prog_14_method_18_code 59 = .ok (.baload, 1) := by decide +kernel
theorem d_MD_byFewest_60 : decode prog_14_method_18_code 60 = .ok (.ifCond .ne 7, 3) := by decide +kernel
theorem d_MD_byFewest_63 : decode prog_14_method_18_code 63 = .ok (.iconst 1, 1) := by decide +kernel
theorem d_MD_byFewest_64 : decode prog_14_method_18_code 64 = .ok (.goto 4, 3) := by decide +kernel
theorem d_MD_byFewest_67 : decode prog_14_method_18_code 67 = .ok (.iconst 0, 1) := by decide +kernel
theorem d_MD_byFewest_68 : decode prog_14_method_18_code 68 = .ok (.istore 4, 2) := by decide +kernel
theorem d_MD_byFewest_70 : decode prog_14_method_18_code 70 = .ok (.iinc 5 1, 3) := by decide +kernel
theorem d_MD_byFewest_73 : decode prog_14_method_18_code 73 = .ok (.goto (-44), 3) := by decide +kernel
theorem d_MD_byFewest_76 : decode prog_14_method_18_code 76 = .ok (.bipush (-9), 2) := by decide +kernel
theorem d_MD_byFewest_78 : decode prog_14_method_18_code 78 = .ok (.istore 5, 2) := by decide +kernel
theorem d_MD_byFewest_80 : decode prog_14_method_18_code 80 = .ok (.iconst 0, 1) := by decide +kernel
theorem d_MD_byFewest_81 : decode prog_14_method_18_code 81 = .ok (.istore 6, 2) := by decide +kernel
theorem d_MD_byFewest_83 : decode prog_14_method_18_code 83 = .ok (.iconst 0, 1) := by decide +kernel
theorem d_MD_byFewest_84 : decode prog_14_method_18_code 84 = .ok (.istore 7, 2) := by decide +kernel
theorem d_MD_byFewest_86 : decode prog_14_method_18_code 86 = .ok (.iload 7, 2) := by decide +kernel
theorem d_MD_byFewest_88 : decode prog_14_method_18_code 88 = .ok (.aload_n 0, 1) := by decide +kernel
theorem d_MD_byFewest_89 : decode prog_14_method_18_code 89 = .ok (.getfield 7, 3) := by decide +kernel
theorem d_MD_byFewest_92 : decode prog_14_method_18_code 92 = .ok (.if_icmp .ge 99, 3) := by decide +kernel
theorem d_MD_byFewest_95 : decode prog_14_method_18_code 95 = .ok (.iload_n 2, 1) := by decide +kernel
theorem d_MD_byFewest_96 : decode prog_14_method_18_code 96 = .ok (.iload 7, 2) := by decide +kernel
theorem d_MD_byFewest_98 : decode prog_14_method_18_code 98 = .ok (.ishr, 1) := by decide +kernel
theorem d_MD_byFewest_99 : decode prog_14_method_18_code 99 = .ok (.iconst 1, 1) := by decide +kernel
theorem d_MD_byFewest_100 : decode prog_14_method_18_code 100 = .ok (.iand, 1) := by decide +kernel
theorem d_MD_byFewest_101 : decode prog_14_method_18_code 101 = .ok (.ifCond .eq 84, 3) := by decide +kernel
theorem d_MD_byFewest_104 : decode prog_14_method_18_code 104 = .ok (.iload 4, 2) := by decide +kernel
theorem d_MD_byFewest_106 : decode prog_14_method_18_code 106 = .ok (.ifCond .eq 16, 3) := by decide +kernel
theorem d_MD_byFewest_109 : decode prog_14_method_18_code 109 = .ok (.aload_n 0, 1) := by decide +kernel
theorem d_MD_byFewest_110 : decode prog_14_method_18_code 110 = .ok (.getfield 20, 3) := by decide +kernel
theorem d_MD_byFewest_113 : decode prog_14_method_18_code 113 = .ok (.iload 7, 2) := by decide +kernel
theorem d_MD_byFewest_115 : decode prog_14_method_18_code 115 = .ok (.baload, 1) := by decide +kernel
theorem d_MD_byFewest_116 : decode prog_14_method_18_code 116 = .ok (.ifCond .eq 6, 3) := by decide +kernel
theorem d_MD_byFewest_119 : decode prog_14_method_18_code 119 = .ok (.goto 66, 3) := by decide +kernel
theorem d_MD_byFewest_122 : decode prog_14_method_18_code 122 = .ok (.aload_n 0, 1) := by decide +kernel
theorem d_MD_byFewest_123 : decode prog_14_method_18_code 123 = .ok (.getfield 33, 3) := by decide +kernel
theorem d_MD_byFewest_126 : decode prog_14_method_18_code 126 = .ok (.iload 7, 2) := by decide +kernel
theorem d_MD_byFewest_128 : decode prog_14_method_18_code 128 = .ok (.iaload, 1) := by decide +kernel
theorem d_MD_byFewest_129 : decode prog_14_method_18_code 129 = .ok (.iload_n 2, 1) := by decide +kernel
theorem d_MD_byFewest_130 : decode prog_14_method_18_code 130 = .ok (.iand, 1) := by decide +kernel
theorem d_MD_byFewest_131 : decode prog_14_method_18_code 131 = .ok (.iconst 1, 1) := by decide +kernel
theorem d_MD_byFewest_132 : decode prog_14_method_18_code 132 = .ok (.iload 7, 2) := by decide +kernel
theorem d_MD_byFewest_134 : decode prog_14_method_18_code 134 = .ok (.ishl, 1) := by decide +kernel
theorem d_MD_byFewest_135 : decode prog_14_method_18_code 135 = .ok (.iconst (-1), 1) := by decide +kernel
theorem d_MD_byFewest_136 : decode prog_14_method_18_code 136 = .ok (.ixor, 1) := by decide +kernel
theorem d_MD_byFewest_137 : decode prog_14_method_18_code 137 = .ok (.iand, 1) := by decide +kernel
theorem d_MD_byFewest_138 : decode prog_14_method_18_code 138 = .ok (.istore 8, 2) := by decide +kernel
theorem d_MD_byFewest_140 : decode prog_14_method_18_code 140 = .ok (.iload_n 1, 1) := by decide +kernel
theorem d_MD_byFewest_141 : decode prog_14_method_18_code 141 = .ok (.ifCond .eq 15, 3) := by decide +kernel
theorem d_MD_byFewest_144 : decode prog_14_method_18_code 144 = .ok (.aload_n 0, 1) := by decide +kernel
theorem d_MD_byFewest_145 : decode prog_14_method_18_code 145 = .ok (.getfield 33, 3) := by decide +kernel
theorem d_MD_byFewest_148 : decode prog_14_method_18_code 148 = .ok (.iload 8, 2) := by decide +kernel
theorem d_MD_byFewest_150 : decode prog_14_method_18_code 150 = .ok (.invokestatic 110, 3) := by decide +kernel
theorem d_MD_byFewest_153 : decode prog_14_method_18_code 153 = .ok (.goto 8, 3) := by decide +kernel
theorem d_MD_byFewest_156 : decode prog_14_method_18_code 156 = .ok (.iload 8, 2) := by decide +kernel
theorem d_MD_byFewest_158 : decode prog_14_method_18_code 158 = .ok (.invokestatic 98, 3) := by decide +kernel
theorem d_MD_byFewest_161 : decode prog_14_method_18_code 161 = .ok (.istore 9, 2) := by decide +kernel
theorem d_MD_byFewest_163 : decode prog_14_method_18_code 163 = .ok (.iload 5, 2) := by decide +kernel
theorem d_MD_byFewest_165 : decode prog_14_method_18_code 165 = .ok (.bipush (-9), 2) := by decide +kernel
theorem d_MD_byFewest_167 : decode prog_14_method_18_code 167 = .ok (.if_icmp .eq 10, 3) := by decide +kernel
theorem d_MD_byFewest_170 : decode prog_14_method_18_code 170 = .ok (.iload 9, 2) := by decide +kernel
theorem d_MD_byFewest_172 : decode prog_14_method_18_code 172 = .ok (.iload 6, 2) := by decide +kernel
theorem d_MD_byFewest_174 : decode prog_14_method_18_code 174 = .ok (.if_icmp .ge 11, 3) := by decide +kernel
theorem d_MD_byFewest_177 : decode prog_14_method_18_code 177 = .ok (.iload 7, 2) := by decide +kernel
theorem d_MD_byFewest_179 : decode prog_14_method_18_code 179 = .ok (.istore 5, 2) := by decide +kernel
theorem d_MD_byFewest_181 : decode prog_14_method_18_code 181 = .ok (.iload 9, 2) := by decide +kernel
theorem d_MD_byFewest_183 : decode prog_14_method_18_code 183 = .ok (.istore 6, 2) := by decide +kernel
theorem d_MD_byFewest_185 : decode prog_14_method_18_code 185 = .ok (.iinc 7 1, 3) := by decide +kernel
theorem d_MD_byFewest_188 : decode prog_14_method_18_code 188 = .ok (.goto (-102), 3) := by decide +kernel
theorem d_MD_byFewest_191 : decode prog_14_method_18_code 191 = .ok (.aload_n 0, 1) := by decide +kernel
theorem d_MD_byFewest_192 : decode prog_14_method_18_code 192 = .ok (.getfield 24, 3) := by decide +kernel
theorem d_MD_byFewest_195 : decode prog_14_method_18_code 195 = .ok (.iload_n 3, 1) := by decide +kernel
theorem d_MD_byFewest_196 : decode prog_14_method_18_code 196 = .ok (.iload 5, 2) := by decide +kernel
theorem d_MD_byFewest_198 : decode prog_14_method_18_code 198 = .ok (.iastore, 1) := by decide +kernel
theorem d_MD_byFewest_199 : decode prog_14_method_18_code 199 = .ok (.iload_n 2, 1) := by decide +kernel
theorem d_MD_byFewest_200 : decode prog_14_method_18_code 200 = .ok (.iconst 1, 1) := by decide +kernel
theorem d_MD_byFewest_201 : decode prog_14_method_18_code 201 = .ok (.iload 5, 2) := by decide +kernel
theorem d_MD_byFewest_203 : decode prog_14_method_18_code 203 = .ok (.ishl, 1) := by decide +kernel
theorem d_MD_byFewest_204 : decode prog_14_method_18_code 204 = .ok (.iconst (-1), 1) := by decide +kernel
theorem d_MD_byFewest_205 : decode prog_14_method_18_code 205 = .ok (.ixor, 1) := by decide +kernel
theorem d_MD_byFewest_206 : decode prog_14_method_18_code 206 = .ok (.iand, 1) := by decide +kernel
theorem d_MD_byFewest_207 : decode prog_14_method_18_code 207 = .ok (.istore_n 2, 1) := by decide +kernel
theorem d_MD_byFewest_208 : decode prog_14_method_18_code 208 = .ok (.aload_n 0, 1) := by decide +kernel
theorem d_MD_byFewest_209 : decode prog_14_method_18_code 209 = .ok (.getfield 33, 3) := by decide +kernel
theorem d_MD_byFewest_212 : decode prog_14_method_18_code 212 = .ok (.aload_n 0, 1) := by decide +kernel
theorem d_MD_byFewest_213 : decode prog_14_method_18_code 213 = .ok (.getfield 33, 3) := by decide +kernel
theorem d_MD_byFewest_216 : decode prog_14_method_18_code 216 = .ok (.iload 5, 2) := by decide +kernel
theorem d_MD_byFewest_218 : decode prog_14_method_18_code 218 = .ok (.iaload, 1) := by decide +kernel
theorem d_MD_byFewest_219 : decode prog_14_method_18_code 219 = .ok (.iload_n 2, 1) := by decide +kernel
theorem d_MD_byFewest_220 : decode prog_14_method_18_code 220 = .ok (.iand, 1) := by decide +kernel
theorem d_MD_byFewest_221 : decode prog_14_method_18_code 221 = .ok (.invokestatic 106, 3) := by decide +kernel
theorem d_MD_byFewest_224 : decode prog_14_method_18_code 224 = .ok (.iinc 3 1, 3) := by decide +kernel
theorem d_MD_byFewest_227 : decode prog_14_method_18_code 227 = .ok (.goto (-212), 3) := by decide +kernel
theorem d_MD_byFewest_230 : decode prog_14_method_18_code 230 = .ok (.return_, 1) := by decide +kernel
def MD_byFewest_161 (h0 : Nat) (v1 : Int32) (v2 : Int32) (v3 : Int32) (v4 : Int32) (v5 : Int32) (v6 : Int32) (v7 : Int32) (s0 : Int32) (I : jM) (K : jM → Prop) (X15 : Int32 × Int32 × jM → Prop) (X86 : Int32 × Int32 × Int32 → Prop) : Prop :=
  ((v5 = (-9 : Int32) → X86 (v7, s0, (v7 + 1))) ∧ (¬ v5 = (-9 : Int32) → ((v6 ≤ s0 → X86 (v5, v6, (v7 + 1))) ∧ (¬ v6 ≤ s0 → X86 (v7, s0, (v7 + 1))))))
set_option maxRecDepth 100000 in
set_option maxHeartbeats 4000000 in
theorem k_MD_byFewest_161 {Z : jZ} {E : jE} (C : jC Z E prog_14_method_18_code 10 "OutOrderModel" 2 45) (hr : (jZh Z).sig.returnType = none) (hE : E.2.2.2 = jLM)  (h0 : Nat) (v1 : Int32) (v2 : Int32) (v3 : Int32) (v4 : Int32) (v5 : Int32) (v6 : Int32) (v7 : Int32) (s0 : Int32) (I : jM) (g_h0 : jOB E 11 h0) {K : jM → Prop} {X15 : Int32 × Int32 × jM → Prop} {X86 : Int32 × Int32 × Int32 → Prop} (hX15 : ∀ s : Int32 × Int32 × jM, X15 s → jJ Z E 10 (jQv Z E K) 15 [(0, .ref (E.2.2.1 h0)), (1, .int v1), (2, .int s.1), (3, .int s.2.1)] [] s.2.2) (hX86 : ∀ s : Int32 × Int32 × Int32, X86 s → jJ Z E 10 (jQv Z E K) 86 [(0, .ref (E.2.2.1 h0)), (1, .int v1), (2, .int v2), (3, .int v3), (4, .int v4), (5, .int s.1), (6, .int s.2.1), (7, .int s.2.2)] [] I) (h : MD_byFewest_161 h0 v1 v2 v3 v4 v5 v6 v7 s0 I K X15 X86) : jJ Z E 10 (jQv Z E K) 161 [(0, .ref (E.2.2.1 h0)), (1, .int v1), (2, .int v2), (3, .int v3), (4, .int v4), (5, .int v5), (6, .int v6), (7, .int v7)] [.int s0] I := by
  unfold MD_byFewest_161 at h
  refine j_istore C d_MD_byFewest_161 (by decide) (lv' := [(9, .int s0), (0, .ref (E.2.2.1 h0)), (1, .int v1), (2, .int v2), (3, .int v3), (4, .int v4), (5, .int v5), (6, .int v6), (7, .int v7)]) rfl ?_
  refine j_iload C d_MD_byFewest_163 6 rfl ?_
  refine j_bipush C d_MD_byFewest_165 ib_m9 ?_
  refine j_icmp_eq C d_MD_byFewest_167 (tgt := 177) (by decide) (fun c167 => ?_) (fun c167 => ?_)
  · have h := h.1 c167
    refine j_iload C d_MD_byFewest_177 8 rfl ?_
    refine j_istore C d_MD_byFewest_179 (by decide) (lv' := [(5, .int v7), (9, .int s0), (0, .ref (E.2.2.1 h0)), (1, .int v1), (2, .int v2), (3, .int v3), (4, .int v4), (6, .int v6), (7, .int v7)]) rfl ?_
    refine j_iload C d_MD_byFewest_181 1 rfl ?_
    refine j_istore C d_MD_byFewest_183 (by decide) (lv' := [(6, .int s0), (5, .int v7), (9, .int s0), (0, .ref (E.2.2.1 h0)), (1, .int v1), (2, .int v2), (3, .int v3), (4, .int v4), (7, .int v7)]) rfl ?_
    refine j_iinc C d_MD_byFewest_185 8 rfl (v := (v7 + 1)) rfl (by decide) (lv' := [(7, .int (v7 + 1)), (6, .int s0), (5, .int v7), (9, .int s0), (0, .ref (E.2.2.1 h0)), (1, .int v1), (2, .int v2), (3, .int v3), (4, .int v4)]) rfl ?_
    refine j_goto C d_MD_byFewest_188 (tgt := 86) (by decide) ?_
    refine j_lv [4, 5, 6, 7, 8, 2, 1, 0] rfl ?_
    exact hX86 (v7, s0, (v7 + 1)) h
  · have h := h.2 c167
    refine j_iload C d_MD_byFewest_170 0 rfl ?_
    refine j_iload C d_MD_byFewest_172 7 rfl ?_
    refine j_icmp_ge C d_MD_byFewest_174 (tgt := 185) (by decide) (fun c174 => ?_) (fun c174 => ?_)
    · have h := h.1 c174
      refine j_iinc C d_MD_byFewest_185 8 rfl (v := (v7 + 1)) rfl (by decide) (lv' := [(7, .int (v7 + 1)), (9, .int s0), (0, .ref (E.2.2.1 h0)), (1, .int v1), (2, .int v2), (3, .int v3), (4, .int v4), (5, .int v5), (6, .int v6)]) rfl ?_
      refine j_goto C d_MD_byFewest_188 (tgt := 86) (by decide) ?_
      refine j_lv [2, 3, 4, 5, 6, 7, 8, 0] rfl ?_
      exact hX86 (v5, v6, (v7 + 1)) h
    · have h := h.2 c174
      refine j_iload C d_MD_byFewest_177 8 rfl ?_
      refine j_istore C d_MD_byFewest_179 (by decide) (lv' := [(5, .int v7), (9, .int s0), (0, .ref (E.2.2.1 h0)), (1, .int v1), (2, .int v2), (3, .int v3), (4, .int v4), (6, .int v6), (7, .int v7)]) rfl ?_
      refine j_iload C d_MD_byFewest_181 1 rfl ?_
      refine j_istore C d_MD_byFewest_183 (by decide) (lv' := [(6, .int s0), (5, .int v7), (9, .int s0), (0, .ref (E.2.2.1 h0)), (1, .int v1), (2, .int v2), (3, .int v3), (4, .int v4), (7, .int v7)]) rfl ?_
      refine j_iinc C d_MD_byFewest_185 8 rfl (v := (v7 + 1)) rfl (by decide) (lv' := [(7, .int (v7 + 1)), (6, .int s0), (5, .int v7), (9, .int s0), (0, .ref (E.2.2.1 h0)), (1, .int v1), (2, .int v2), (3, .int v3), (4, .int v4)]) rfl ?_
      refine j_goto C d_MD_byFewest_188 (tgt := 86) (by decide) ?_
      refine j_lv [4, 5, 6, 7, 8, 2, 1, 0] rfl ?_
      exact hX86 (v7, s0, (v7 + 1)) h
def MD_byFewest_122 (h0 : Nat) (v1 : Int32) (v2 : Int32) (v3 : Int32) (v4 : Int32) (v5 : Int32) (v6 : Int32) (v7 : Int32) (I : jM) (K : jM → Prop) (X15 : Int32 × Int32 × jM → Prop) (X86 : Int32 × Int32 × Int32 → Prop) : Prop :=
  (vp_in v7 24 ∧ (∀ v8_1 : Int32, v8_1 = (((I (jr h0 7) v7.toNatClampNeg) &&& v2) &&& (((1 : Int32) <<< (v7 &&& 31)) ^^^ (-1 : Int32))) → ((v1 = 0 → MD_ones v8_1 I (fun r_2 => MD_byFewest_161 h0 v1 v2 v3 v4 v5 v6 v7 r_2 I K X15 X86)) ∧ (¬ v1 = 0 → MD_fillsOf (jr h0 7) v8_1 I (fun r_3 => MD_byFewest_161 h0 v1 v2 v3 v4 v5 v6 v7 r_3 I K X15 X86)))))
set_option maxRecDepth 100000 in
set_option maxHeartbeats 4000000 in
theorem k_MD_byFewest_122 {Z : jZ} {E : jE} (C : jC Z E prog_14_method_18_code 10 "OutOrderModel" 2 45) (hr : (jZh Z).sig.returnType = none) (hE : E.2.2.2 = jLM)  (h0 : Nat) (v1 : Int32) (v2 : Int32) (v3 : Int32) (v4 : Int32) (v5 : Int32) (v6 : Int32) (v7 : Int32) (I : jM) (g_h0 : jOB E 11 h0) {K : jM → Prop} {X15 : Int32 × Int32 × jM → Prop} {X86 : Int32 × Int32 × Int32 → Prop} (hX15 : ∀ s : Int32 × Int32 × jM, X15 s → jJ Z E 10 (jQv Z E K) 15 [(0, .ref (E.2.2.1 h0)), (1, .int v1), (2, .int s.1), (3, .int s.2.1)] [] s.2.2) (hX86 : ∀ s : Int32 × Int32 × Int32, X86 s → jJ Z E 10 (jQv Z E K) 86 [(0, .ref (E.2.2.1 h0)), (1, .int v1), (2, .int v2), (3, .int v3), (4, .int v4), (5, .int s.1), (6, .int s.2.1), (7, .int s.2.2)] [] I) (h : MD_byFewest_122 h0 v1 v2 v3 v4 v5 v6 v7 I K X15 X86) : jJ Z E 10 (jQv Z E K) 122 [(0, .ref (E.2.2.1 h0)), (1, .int v1), (2, .int v2), (3, .int v3), (4, .int v4), (5, .int v5), (6, .int v6), (7, .int v7)] [] I := by
  unfold MD_byFewest_122 at h
  refine j_aload_n C d_MD_byFewest_122 rfl 0 rfl ?_
  refine fg_MD_33 C g_h0 d_MD_byFewest_123 ?_
  refine j_iload C d_MD_byFewest_126 7 rfl ?_
  obtain ⟨hi, h⟩ := h
  refine j_iaload C (sh_MD_7 hE g_h0) hi d_MD_byFewest_128 ?_
  refine j_iload_n C d_MD_byFewest_129 rfl 2 rfl ?_
  refine j_iand C d_MD_byFewest_130 ?_
  refine j_iconst C d_MD_byFewest_131 ic_1 ?_
  refine j_iload C d_MD_byFewest_132 7 rfl ?_
  refine j_ishl C d_MD_byFewest_134 ?_
  refine j_iconst C d_MD_byFewest_135 ic_m1 ?_
  refine j_ixor C d_MD_byFewest_136 ?_
  refine j_iand C d_MD_byFewest_137 ?_
  refine j_topi (fun v8_1 ev8_1 => ?_)
  have h := h v8_1 ev8_1
  refine j_istore C d_MD_byFewest_138 (by decide) (lv' := [(8, .int v8_1), (0, .ref (E.2.2.1 h0)), (1, .int v1), (2, .int v2), (3, .int v3), (4, .int v4), (5, .int v5), (6, .int v6), (7, .int v7)]) rfl ?_
  refine j_iload_n C d_MD_byFewest_140 rfl 2 rfl ?_
  refine j_if_eq C d_MD_byFewest_141 (tgt := 156) (by decide) (fun c141 => ?_) (fun c141 => ?_)
  · have h := h.1 c141
    refine j_iload C d_MD_byFewest_156 0 rfl ?_
    refine j_callSi (As := [.int v8_1]) C cw_MD_98 w_866 rfl rfl (by decide) (by decide) (Nat.le_of_ble_eq_true rfl) d_MD_byFewest_158 (s_MD_ones C.ok  h) (fun r_2 I2 h => ?_)
    obtain ⟨rfl, h⟩ := h
    refine j_lv [1, 2, 3, 4, 5, 6, 7, 8] rfl ?_
    exact k_MD_byFewest_161 C hr hE h0 v1 v2 v3 v4 v5 v6 v7 r_2 I g_h0 hX15 hX86 h
  · have h := h.2 c141
    refine j_aload_n C d_MD_byFewest_144 rfl 1 rfl ?_
    refine fg_MD_33 C g_h0 d_MD_byFewest_145 ?_
    refine j_iload C d_MD_byFewest_148 0 rfl ?_
    refine j_callSi (As := [.ref (E.2.2.1 (jr h0 7)), .int v8_1]) C cw_MD_110 w_863 rfl rfl (by decide) (by decide) (Nat.le_of_ble_eq_true rfl) d_MD_byFewest_150 (s_MD_fillsOf C.ok (((sh_MD_7 hE g_h0)).self) h) (fun r_3 I2 h => ?_)
    obtain ⟨rfl, h⟩ := h
    refine j_goto C d_MD_byFewest_153 (tgt := 161) (by decide) ?_
    refine j_lv [1, 2, 3, 4, 5, 6, 7, 8] rfl ?_
    exact k_MD_byFewest_161 C hr hE h0 v1 v2 v3 v4 v5 v6 v7 r_3 I g_h0 hX15 hX86 h
def MD_byFewest_86b (h0 : Nat) (v1 : Int32) (v2 : Int32) (v3 : Int32) (v4 : Int32) (v5 : Int32) (v6 : Int32) (v7 : Int32) (I : jM) (K : jM → Prop) (X15 : Int32 × Int32 × jM → Prop) (X86 : Int32 × Int32 × Int32 → Prop) : Prop :=
  (((I h0 0) ≤ v7 → (vp_in v3 24 ∧ (∀ I_1 : jM, I_1 = jwr I (jr h0 4) v3.toNatClampNeg v5 → (∀ v2_2 : Int32, v2_2 = (v2 &&& (((1 : Int32) <<< (v5 &&& 31)) ^^^ (-1 : Int32))) → (vp_in v5 24 ∧ MD_joinAll (jr h0 7) ((I_1 (jr h0 7) v5.toNatClampNeg) &&& v2_2) I_1 (fun I_4 => X15 (v2_2, (v3 + 1), I_4))))))) ∧ (¬ (I h0 0) ≤ v7 → ((((v2 >>> (v7 &&& 31)) &&& (1 : Int32)) = 0 → X86 (v5, v6, (v7 + 1))) ∧ (¬ ((v2 >>> (v7 &&& 31)) &&& (1 : Int32)) = 0 → ((v4 = 0 → MD_byFewest_122 h0 v1 v2 v3 v4 v5 v6 v7 I K X15 X86) ∧ (¬ v4 = 0 → (vp_in v7 24 ∧ (((I (jr h0 3) v7.toNatClampNeg) = 0 → MD_byFewest_122 h0 v1 v2 v3 v4 v5 v6 v7 I K X15 X86) ∧ (¬ (I (jr h0 3) v7.toNatClampNeg) = 0 → X86 (v5, v6, (v7 + 1)))))))))))
def MD_byFewest_86 (h0 : Nat) (v1 : Int32) (v2 : Int32) (v3 : Int32) (v4 : Int32) (v5 : Int32) (v6 : Int32) (v7 : Int32) (I : jM) (K : jM → Prop) (X15 : Int32 × Int32 × jM → Prop) : Prop :=
  lp (fun (X86 : Int32 × Int32 × Int32 → Prop) (s : Int32 × Int32 × Int32) => MD_byFewest_86b h0 v1 v2 v3 v4 s.1 s.2.1 s.2.2 I K X15 X86) (v5, v6, v7)
set_option maxRecDepth 100000 in
set_option maxHeartbeats 4000000 in
theorem kb_MD_byFewest_86 {Z : jZ} {E : jE} (C : jC Z E prog_14_method_18_code 10 "OutOrderModel" 2 45) (hr : (jZh Z).sig.returnType = none) (hE : E.2.2.2 = jLM)  (h0 : Nat) (v1 : Int32) (v2 : Int32) (v3 : Int32) (v4 : Int32) (v5 : Int32) (v6 : Int32) (v7 : Int32) (I : jM) (g_h0 : jOB E 11 h0) {K : jM → Prop} {X15 : Int32 × Int32 × jM → Prop} (hX15 : ∀ s : Int32 × Int32 × jM, X15 s → jJ Z E 10 (jQv Z E K) 15 [(0, .ref (E.2.2.1 h0)), (1, .int v1), (2, .int s.1), (3, .int s.2.1)] [] s.2.2) {X86 : Int32 × Int32 × Int32 → Prop} (hX86 : ∀ s : Int32 × Int32 × Int32, X86 s → jJ Z E 10 (jQv Z E K) 86 [(0, .ref (E.2.2.1 h0)), (1, .int v1), (2, .int v2), (3, .int v3), (4, .int v4), (5, .int s.1), (6, .int s.2.1), (7, .int s.2.2)] [] I) (h : MD_byFewest_86b h0 v1 v2 v3 v4 v5 v6 v7 I K X15 X86) : jJ Z E 10 (jQv Z E K) 86 [(0, .ref (E.2.2.1 h0)), (1, .int v1), (2, .int v2), (3, .int v3), (4, .int v4), (5, .int v5), (6, .int v6), (7, .int v7)] [] I := by
  unfold MD_byFewest_86b at h
  refine j_iload C d_MD_byFewest_86 7 rfl ?_
  refine j_aload_n C d_MD_byFewest_88 rfl 0 rfl ?_
  refine fg_MD_7 C g_h0 d_MD_byFewest_89 ?_
  refine j_icmp_ge C d_MD_byFewest_92 (tgt := 191) (by decide) (fun c92 => ?_) (fun c92 => ?_)
  · have h := h.1 c92
    refine j_aload_n C d_MD_byFewest_191 rfl 0 rfl ?_
    refine fg_MD_24 C g_h0 d_MD_byFewest_192 ?_
    refine j_iload_n C d_MD_byFewest_195 rfl 3 rfl ?_
    refine j_iload C d_MD_byFewest_196 5 rfl ?_
    obtain ⟨hi, h⟩ := h
    refine j_iastore C (sh_MD_4 hE g_h0) hi d_MD_byFewest_198 ?_
    have h := h _ rfl
    generalize eI_1 : (jwr I (jr h0 4) v3.toNatClampNeg v5 : jM) = I_1 at h ⊢
    refine j_iload_n C d_MD_byFewest_199 rfl 2 rfl ?_
    refine j_iconst C d_MD_byFewest_200 ic_1 ?_
    refine j_iload C d_MD_byFewest_201 5 rfl ?_
    refine j_ishl C d_MD_byFewest_203 ?_
    refine j_iconst C d_MD_byFewest_204 ic_m1 ?_
    refine j_ixor C d_MD_byFewest_205 ?_
    refine j_iand C d_MD_byFewest_206 ?_
    refine j_topi (fun v2_2 ev2_2 => ?_)
    have h := h v2_2 ev2_2
    refine j_istore_n C d_MD_byFewest_207 rfl (by decide) (lv' := [(2, .int v2_2), (0, .ref (E.2.2.1 h0)), (1, .int v1), (3, .int v3), (4, .int v4), (5, .int v5), (6, .int v6), (7, .int v7)]) rfl ?_
    refine j_aload_n C d_MD_byFewest_208 rfl 1 rfl ?_
    refine fg_MD_33 C g_h0 d_MD_byFewest_209 ?_
    refine j_aload_n C d_MD_byFewest_212 rfl 1 rfl ?_
    refine fg_MD_33 C g_h0 d_MD_byFewest_213 ?_
    refine j_iload C d_MD_byFewest_216 5 rfl ?_
    obtain ⟨hi, h⟩ := h
    refine j_iaload C (sh_MD_7 hE g_h0) hi d_MD_byFewest_218 ?_
    refine j_iload_n C d_MD_byFewest_219 rfl 0 rfl ?_
    refine j_iand C d_MD_byFewest_220 ?_
    refine j_callSv (As := [.ref (E.2.2.1 (jr h0 7)), .int ((I_1 (jr h0 7) v5.toNatClampNeg) &&& v2_2)]) C cw_MD_106 w_869 rfl rfl (by decide) (by decide) (Nat.le_of_ble_eq_true rfl) d_MD_byFewest_221 (s_MD_joinAll C.ok (((sh_MD_7 hE g_h0)).self) h) (fun I_4 h => ?_)
    refine j_iinc C d_MD_byFewest_224 3 rfl (v := (v3 + 1)) rfl (by decide) (lv' := [(3, .int (v3 + 1)), (2, .int v2_2), (0, .ref (E.2.2.1 h0)), (1, .int v1), (4, .int v4), (5, .int v5), (6, .int v6), (7, .int v7)]) rfl ?_
    refine j_goto C d_MD_byFewest_227 (tgt := 15) (by decide) ?_
    refine j_lv [2, 3, 1, 0] rfl ?_
    exact hX15 (v2_2, (v3 + 1), I_4) h
  · have h := h.2 c92
    refine j_iload_n C d_MD_byFewest_95 rfl 2 rfl ?_
    refine j_iload C d_MD_byFewest_96 7 rfl ?_
    refine j_ishr C d_MD_byFewest_98 ?_
    refine j_iconst C d_MD_byFewest_99 ic_1 ?_
    refine j_iand C d_MD_byFewest_100 ?_
    refine j_if_eq C d_MD_byFewest_101 (tgt := 185) (by decide) (fun c101 => ?_) (fun c101 => ?_)
    · have h := h.1 c101
      refine j_iinc C d_MD_byFewest_185 7 rfl (v := (v7 + 1)) rfl (by decide) (lv' := [(7, .int (v7 + 1)), (0, .ref (E.2.2.1 h0)), (1, .int v1), (2, .int v2), (3, .int v3), (4, .int v4), (5, .int v5), (6, .int v6)]) rfl ?_
      refine j_goto C d_MD_byFewest_188 (tgt := 86) (by decide) ?_
      refine j_lv [1, 2, 3, 4, 5, 6, 7, 0] rfl ?_
      exact hX86 (v5, v6, (v7 + 1)) h
    · have h := h.2 c101
      refine j_iload C d_MD_byFewest_104 4 rfl ?_
      refine j_if_eq C d_MD_byFewest_106 (tgt := 122) (by decide) (fun c106 => ?_) (fun c106 => ?_)
      · have h := h.1 c106
        refine j_lv [0, 1, 2, 3, 4, 5, 6, 7] rfl ?_
        exact k_MD_byFewest_122 C hr hE h0 v1 v2 v3 v4 v5 v6 v7 I g_h0 hX15 hX86 h
      · have h := h.2 c106
        refine j_aload_n C d_MD_byFewest_109 rfl 0 rfl ?_
        refine fg_MD_20 C g_h0 d_MD_byFewest_110 ?_
        refine j_iload C d_MD_byFewest_113 7 rfl ?_
        obtain ⟨hi, h⟩ := h
        refine j_zaload C (sh_MD_3 hE g_h0) hi d_MD_byFewest_115 ?_
        refine j_if_eq C d_MD_byFewest_116 (tgt := 122) (by decide) (fun c116 => ?_) (fun c116 => ?_)
        · have h := h.1 c116
          refine j_lv [0, 1, 2, 3, 4, 5, 6, 7] rfl ?_
          exact k_MD_byFewest_122 C hr hE h0 v1 v2 v3 v4 v5 v6 v7 I g_h0 hX15 hX86 h
        · have h := h.2 c116
          refine j_goto C d_MD_byFewest_119 (tgt := 185) (by decide) ?_
          refine j_iinc C d_MD_byFewest_185 7 rfl (v := (v7 + 1)) rfl (by decide) (lv' := [(7, .int (v7 + 1)), (0, .ref (E.2.2.1 h0)), (1, .int v1), (2, .int v2), (3, .int v3), (4, .int v4), (5, .int v5), (6, .int v6)]) rfl ?_
          refine j_goto C d_MD_byFewest_188 (tgt := 86) (by decide) ?_
          refine j_lv [1, 2, 3, 4, 5, 6, 7, 0] rfl ?_
          exact hX86 (v5, v6, (v7 + 1)) h
theorem k_MD_byFewest_86 {Z : jZ} {E : jE} (C : jC Z E prog_14_method_18_code 10 "OutOrderModel" 2 45) (hr : (jZh Z).sig.returnType = none) (hE : E.2.2.2 = jLM)  (h0 : Nat) (v1 : Int32) (v2 : Int32) (v3 : Int32) (v4 : Int32) (v5 : Int32) (v6 : Int32) (v7 : Int32) (I : jM) (g_h0 : jOB E 11 h0) {K : jM → Prop} {X15 : Int32 × Int32 × jM → Prop} (hX15 : ∀ s : Int32 × Int32 × jM, X15 s → jJ Z E 10 (jQv Z E K) 15 [(0, .ref (E.2.2.1 h0)), (1, .int v1), (2, .int s.1), (3, .int s.2.1)] [] s.2.2) (h : MD_byFewest_86 h0 v1 v2 v3 v4 v5 v6 v7 I K X15) : jJ Z E 10 (jQv Z E K) 86 [(0, .ref (E.2.2.1 h0)), (1, .int v1), (2, .int v2), (3, .int v3), (4, .int v4), (5, .int v5), (6, .int v6), (7, .int v7)] [] I := by
  unfold MD_byFewest_86 at h
  exact h (fun s => jJ Z E 10 (jQv Z E K) 86 [(0, .ref (E.2.2.1 h0)), (1, .int v1), (2, .int v2), (3, .int v3), (4, .int v4), (5, .int s.1), (6, .int s.2.1), (7, .int s.2.2)] [] I) (fun s hs => kb_MD_byFewest_86 C hr hE h0 v1 v2 v3 v4 s.1 s.2.1 s.2.2 I g_h0 hX15 (fun s2 h2 => h2) hs)
def MD_byFewest_29b (h0 : Nat) (v1 : Int32) (v2 : Int32) (v3 : Int32) (v4 : Int32) (v5 : Int32) (I : jM) (K : jM → Prop) (X15 : Int32 × Int32 × jM → Prop) (X29 : Int32 × Int32 → Prop) : Prop :=
  (((I h0 0) ≤ v5 → MD_byFewest_86 h0 v1 v2 v3 v4 (-9 : Int32) (0 : Int32) (0 : Int32) I K X15) ∧ (¬ (I h0 0) ≤ v5 → ((¬ v4 = 0 → X29 ((1 : Int32), (v5 + 1))) ∧ (v4 = 0 → ((¬ ((v2 >>> (v5 &&& 31)) &&& (1 : Int32)) = (1 : Int32) → X29 ((0 : Int32), (v5 + 1))) ∧ (((v2 >>> (v5 &&& 31)) &&& (1 : Int32)) = (1 : Int32) → (vp_in v5 24 ∧ ((¬ (I (jr h0 3) v5.toNatClampNeg) = 0 → X29 ((0 : Int32), (v5 + 1))) ∧ ((I (jr h0 3) v5.toNatClampNeg) = 0 → X29 ((1 : Int32), (v5 + 1)))))))))))
def MD_byFewest_29 (h0 : Nat) (v1 : Int32) (v2 : Int32) (v3 : Int32) (v4 : Int32) (v5 : Int32) (I : jM) (K : jM → Prop) (X15 : Int32 × Int32 × jM → Prop) : Prop :=
  lp (fun (X29 : Int32 × Int32 → Prop) (s : Int32 × Int32) => MD_byFewest_29b h0 v1 v2 v3 s.1 s.2 I K X15 X29) (v4, v5)
set_option maxRecDepth 100000 in
set_option maxHeartbeats 4000000 in
theorem kb_MD_byFewest_29 {Z : jZ} {E : jE} (C : jC Z E prog_14_method_18_code 10 "OutOrderModel" 2 45) (hr : (jZh Z).sig.returnType = none) (hE : E.2.2.2 = jLM)  (h0 : Nat) (v1 : Int32) (v2 : Int32) (v3 : Int32) (v4 : Int32) (v5 : Int32) (I : jM) (g_h0 : jOB E 11 h0) {K : jM → Prop} {X15 : Int32 × Int32 × jM → Prop} (hX15 : ∀ s : Int32 × Int32 × jM, X15 s → jJ Z E 10 (jQv Z E K) 15 [(0, .ref (E.2.2.1 h0)), (1, .int v1), (2, .int s.1), (3, .int s.2.1)] [] s.2.2) {X29 : Int32 × Int32 → Prop} (hX29 : ∀ s : Int32 × Int32, X29 s → jJ Z E 10 (jQv Z E K) 29 [(0, .ref (E.2.2.1 h0)), (1, .int v1), (2, .int v2), (3, .int v3), (4, .int s.1), (5, .int s.2)] [] I) (h : MD_byFewest_29b h0 v1 v2 v3 v4 v5 I K X15 X29) : jJ Z E 10 (jQv Z E K) 29 [(0, .ref (E.2.2.1 h0)), (1, .int v1), (2, .int v2), (3, .int v3), (4, .int v4), (5, .int v5)] [] I := by
  unfold MD_byFewest_29b at h
  refine j_iload C d_MD_byFewest_29 5 rfl ?_
  refine j_aload_n C d_MD_byFewest_31 rfl 0 rfl ?_
  refine fg_MD_7 C g_h0 d_MD_byFewest_32 ?_
  refine j_icmp_ge C d_MD_byFewest_35 (tgt := 76) (by decide) (fun c35 => ?_) (fun c35 => ?_)
  · have h := h.1 c35
    refine j_bipush C d_MD_byFewest_76 ib_m9 ?_
    refine j_istore C d_MD_byFewest_78 (by decide) (lv' := [(5, .int (-9 : Int32)), (0, .ref (E.2.2.1 h0)), (1, .int v1), (2, .int v2), (3, .int v3), (4, .int v4)]) rfl ?_
    refine j_iconst C d_MD_byFewest_80 ic_0 ?_
    refine j_istore C d_MD_byFewest_81 (by decide) (lv' := [(6, .int (0 : Int32)), (5, .int (-9 : Int32)), (0, .ref (E.2.2.1 h0)), (1, .int v1), (2, .int v2), (3, .int v3), (4, .int v4)]) rfl ?_
    refine j_iconst C d_MD_byFewest_83 ic_0 ?_
    refine j_istore C d_MD_byFewest_84 (by decide) (lv' := [(7, .int (0 : Int32)), (6, .int (0 : Int32)), (5, .int (-9 : Int32)), (0, .ref (E.2.2.1 h0)), (1, .int v1), (2, .int v2), (3, .int v3), (4, .int v4)]) rfl ?_
    refine j_lv [3, 4, 5, 6, 7, 2, 1, 0] rfl ?_
    exact k_MD_byFewest_86 C hr hE h0 v1 v2 v3 v4 (-9 : Int32) (0 : Int32) (0 : Int32) I g_h0 hX15 h
  · have h := h.2 c35
    refine j_iload C d_MD_byFewest_38 4 rfl ?_
    refine j_if_ne C d_MD_byFewest_40 (tgt := 63) (by decide) (fun c40 => ?_) (fun c40 => ?_)
    · have h := h.1 c40
      refine j_iconst C d_MD_byFewest_63 ic_1 ?_
      refine j_goto C d_MD_byFewest_64 (tgt := 68) (by decide) ?_
      refine j_istore C d_MD_byFewest_68 (by decide) (lv' := [(4, .int (1 : Int32)), (0, .ref (E.2.2.1 h0)), (1, .int v1), (2, .int v2), (3, .int v3), (5, .int v5)]) rfl ?_
      refine j_iinc C d_MD_byFewest_70 5 rfl (v := (v5 + 1)) rfl (by decide) (lv' := [(5, .int (v5 + 1)), (4, .int (1 : Int32)), (0, .ref (E.2.2.1 h0)), (1, .int v1), (2, .int v2), (3, .int v3)]) rfl ?_
      refine j_goto C d_MD_byFewest_73 (tgt := 29) (by decide) ?_
      refine j_lv [2, 3, 4, 5, 1, 0] rfl ?_
      exact hX29 ((1 : Int32), (v5 + 1)) h
    · have h := h.2 c40
      refine j_iload_n C d_MD_byFewest_43 rfl 2 rfl ?_
      refine j_iload C d_MD_byFewest_44 5 rfl ?_
      refine j_ishr C d_MD_byFewest_46 ?_
      refine j_iconst C d_MD_byFewest_47 ic_1 ?_
      refine j_iand C d_MD_byFewest_48 ?_
      refine j_iconst C d_MD_byFewest_49 ic_1 ?_
      refine j_icmp_ne C d_MD_byFewest_50 (tgt := 67) (by decide) (fun c50 => ?_) (fun c50 => ?_)
      · have h := h.1 c50
        refine j_iconst C d_MD_byFewest_67 ic_0 ?_
        refine j_istore C d_MD_byFewest_68 (by decide) (lv' := [(4, .int (0 : Int32)), (0, .ref (E.2.2.1 h0)), (1, .int v1), (2, .int v2), (3, .int v3), (5, .int v5)]) rfl ?_
        refine j_iinc C d_MD_byFewest_70 5 rfl (v := (v5 + 1)) rfl (by decide) (lv' := [(5, .int (v5 + 1)), (4, .int (0 : Int32)), (0, .ref (E.2.2.1 h0)), (1, .int v1), (2, .int v2), (3, .int v3)]) rfl ?_
        refine j_goto C d_MD_byFewest_73 (tgt := 29) (by decide) ?_
        refine j_lv [2, 3, 4, 5, 1, 0] rfl ?_
        exact hX29 ((0 : Int32), (v5 + 1)) h
      · have h := h.2 c50
        refine j_aload_n C d_MD_byFewest_53 rfl 0 rfl ?_
        refine fg_MD_20 C g_h0 d_MD_byFewest_54 ?_
        refine j_iload C d_MD_byFewest_57 5 rfl ?_
        obtain ⟨hi, h⟩ := h
        refine j_zaload C (sh_MD_3 hE g_h0) hi d_MD_byFewest_59 ?_
        refine j_if_ne C d_MD_byFewest_60 (tgt := 67) (by decide) (fun c60 => ?_) (fun c60 => ?_)
        · have h := h.1 c60
          refine j_iconst C d_MD_byFewest_67 ic_0 ?_
          refine j_istore C d_MD_byFewest_68 (by decide) (lv' := [(4, .int (0 : Int32)), (0, .ref (E.2.2.1 h0)), (1, .int v1), (2, .int v2), (3, .int v3), (5, .int v5)]) rfl ?_
          refine j_iinc C d_MD_byFewest_70 5 rfl (v := (v5 + 1)) rfl (by decide) (lv' := [(5, .int (v5 + 1)), (4, .int (0 : Int32)), (0, .ref (E.2.2.1 h0)), (1, .int v1), (2, .int v2), (3, .int v3)]) rfl ?_
          refine j_goto C d_MD_byFewest_73 (tgt := 29) (by decide) ?_
          refine j_lv [2, 3, 4, 5, 1, 0] rfl ?_
          exact hX29 ((0 : Int32), (v5 + 1)) h
        · have h := h.2 c60
          refine j_iconst C d_MD_byFewest_63 ic_1 ?_
          refine j_goto C d_MD_byFewest_64 (tgt := 68) (by decide) ?_
          refine j_istore C d_MD_byFewest_68 (by decide) (lv' := [(4, .int (1 : Int32)), (0, .ref (E.2.2.1 h0)), (1, .int v1), (2, .int v2), (3, .int v3), (5, .int v5)]) rfl ?_
          refine j_iinc C d_MD_byFewest_70 5 rfl (v := (v5 + 1)) rfl (by decide) (lv' := [(5, .int (v5 + 1)), (4, .int (1 : Int32)), (0, .ref (E.2.2.1 h0)), (1, .int v1), (2, .int v2), (3, .int v3)]) rfl ?_
          refine j_goto C d_MD_byFewest_73 (tgt := 29) (by decide) ?_
          refine j_lv [2, 3, 4, 5, 1, 0] rfl ?_
          exact hX29 ((1 : Int32), (v5 + 1)) h
theorem k_MD_byFewest_29 {Z : jZ} {E : jE} (C : jC Z E prog_14_method_18_code 10 "OutOrderModel" 2 45) (hr : (jZh Z).sig.returnType = none) (hE : E.2.2.2 = jLM)  (h0 : Nat) (v1 : Int32) (v2 : Int32) (v3 : Int32) (v4 : Int32) (v5 : Int32) (I : jM) (g_h0 : jOB E 11 h0) {K : jM → Prop} {X15 : Int32 × Int32 × jM → Prop} (hX15 : ∀ s : Int32 × Int32 × jM, X15 s → jJ Z E 10 (jQv Z E K) 15 [(0, .ref (E.2.2.1 h0)), (1, .int v1), (2, .int s.1), (3, .int s.2.1)] [] s.2.2) (h : MD_byFewest_29 h0 v1 v2 v3 v4 v5 I K X15) : jJ Z E 10 (jQv Z E K) 29 [(0, .ref (E.2.2.1 h0)), (1, .int v1), (2, .int v2), (3, .int v3), (4, .int v4), (5, .int v5)] [] I := by
  unfold MD_byFewest_29 at h
  exact h (fun s => jJ Z E 10 (jQv Z E K) 29 [(0, .ref (E.2.2.1 h0)), (1, .int v1), (2, .int v2), (3, .int v3), (4, .int s.1), (5, .int s.2)] [] I) (fun s hs => kb_MD_byFewest_29 C hr hE h0 v1 v2 v3 s.1 s.2 I g_h0 hX15 (fun s2 h2 => h2) hs)
def MD_byFewest_15b (h0 : Nat) (v1 : Int32) (v2 : Int32) (v3 : Int32) (I : jM) (K : jM → Prop) (X15 : Int32 × Int32 × jM → Prop) : Prop :=
  (((I h0 0) ≤ v3 → K I) ∧ (¬ (I h0 0) ≤ v3 → MD_byFewest_29 h0 v1 v2 v3 (0 : Int32) (0 : Int32) I K X15))
def MD_byFewest_15 (h0 : Nat) (v1 : Int32) (v2 : Int32) (v3 : Int32) (I : jM) (K : jM → Prop) : Prop :=
  lp (fun (X15 : Int32 × Int32 × jM → Prop) (s : Int32 × Int32 × jM) => MD_byFewest_15b h0 v1 s.1 s.2.1 s.2.2 K X15) (v2, v3, I)
set_option maxRecDepth 100000 in
set_option maxHeartbeats 4000000 in
theorem kb_MD_byFewest_15 {Z : jZ} {E : jE} (C : jC Z E prog_14_method_18_code 10 "OutOrderModel" 2 45) (hr : (jZh Z).sig.returnType = none) (hE : E.2.2.2 = jLM)  (h0 : Nat) (v1 : Int32) (v2 : Int32) (v3 : Int32) (I : jM) (g_h0 : jOB E 11 h0) {K : jM → Prop} {X15 : Int32 × Int32 × jM → Prop} (hX15 : ∀ s : Int32 × Int32 × jM, X15 s → jJ Z E 10 (jQv Z E K) 15 [(0, .ref (E.2.2.1 h0)), (1, .int v1), (2, .int s.1), (3, .int s.2.1)] [] s.2.2) (h : MD_byFewest_15b h0 v1 v2 v3 I K X15) : jJ Z E 10 (jQv Z E K) 15 [(0, .ref (E.2.2.1 h0)), (1, .int v1), (2, .int v2), (3, .int v3)] [] I := by
  unfold MD_byFewest_15b at h
  refine j_iload_n C d_MD_byFewest_15 rfl 3 rfl ?_
  refine j_aload_n C d_MD_byFewest_16 rfl 0 rfl ?_
  refine fg_MD_7 C g_h0 d_MD_byFewest_17 ?_
  refine j_icmp_ge C d_MD_byFewest_20 (tgt := 230) (by decide) (fun c20 => ?_) (fun c20 => ?_)
  · have h := h.1 c20
    exact j_vret C hr d_MD_byFewest_230 h
  · have h := h.2 c20
    refine j_iconst C d_MD_byFewest_23 ic_0 ?_
    refine j_istore C d_MD_byFewest_24 (by decide) (lv' := [(4, .int (0 : Int32)), (0, .ref (E.2.2.1 h0)), (1, .int v1), (2, .int v2), (3, .int v3)]) rfl ?_
    refine j_iconst C d_MD_byFewest_26 ic_0 ?_
    refine j_istore C d_MD_byFewest_27 (by decide) (lv' := [(5, .int (0 : Int32)), (4, .int (0 : Int32)), (0, .ref (E.2.2.1 h0)), (1, .int v1), (2, .int v2), (3, .int v3)]) rfl ?_
    refine j_lv [2, 3, 4, 5, 1, 0] rfl ?_
    exact k_MD_byFewest_29 C hr hE h0 v1 v2 v3 (0 : Int32) (0 : Int32) I g_h0 hX15 h
theorem k_MD_byFewest_15 {Z : jZ} {E : jE} (C : jC Z E prog_14_method_18_code 10 "OutOrderModel" 2 45) (hr : (jZh Z).sig.returnType = none) (hE : E.2.2.2 = jLM)  (h0 : Nat) (v1 : Int32) (v2 : Int32) (v3 : Int32) (I : jM) (g_h0 : jOB E 11 h0) {K : jM → Prop} (h : MD_byFewest_15 h0 v1 v2 v3 I K) : jJ Z E 10 (jQv Z E K) 15 [(0, .ref (E.2.2.1 h0)), (1, .int v1), (2, .int v2), (3, .int v3)] [] I := by
  unfold MD_byFewest_15 at h
  exact h (fun s => jJ Z E 10 (jQv Z E K) 15 [(0, .ref (E.2.2.1 h0)), (1, .int v1), (2, .int s.1), (3, .int s.2.1)] [] s.2.2) (fun s hs => kb_MD_byFewest_15 C hr hE h0 v1 s.1 s.2.1 s.2.2 g_h0 (fun s2 h2 => h2) hs)
/-- OutOrderModel.byFewest(Z)V -/
def MD_byFewest (h0 : Nat) (v1 : Int32) (I : jM) (K : jM → Prop) : Prop :=
  MD_beginNet h0 I (fun I_2 => (∀ v2_3 : Int32, v2_3 = (((1 : Int32) <<< ((I_2 h0 0) &&& 31)) - (1 : Int32)) → MD_byFewest_15 h0 v1 v2_3 (0 : Int32) I_2 K))
set_option maxRecDepth 100000 in
set_option maxHeartbeats 4000000 in
theorem s_MD_byFewest {l : Launch} {E : jE} (ok : jOK E) (hE : E.2.2.2 = jLM) {h0 : Nat} {v1 : Int32} (g_h0 : jOB E 11 h0) {I : jM} {K : jM → Prop} (h : MD_byFewest h0 v1 I K) : jSv l E ⟨"OutOrderModel", "byFewest", "(Z)V"⟩ prog_14_method_18_code 10 none 2 45 [.ref (E.2.2.1 h0), .int v1] I K := by
  refine jS_ofF (own := "OutOrderModel") (by decide +kernel) rfl ok (Nat.le_of_ble_eq_true rfl) (fun Z _ C hr => ?_)
  show jJ Z E 10 (jQv Z E K) 0 [(0, .ref (E.2.2.1 h0)), (1, .int v1)] [] I
  unfold MD_byFewest at h
  refine j_aload_n C d_MD_byFewest_0 rfl 0 rfl ?_
  refine j_callVv (As := []) C jcl_MD cw_MD_100 w_821 ws_25 g_h0 rfl rfl (by decide) (by decide) (Nat.le_of_ble_eq_true rfl) d_MD_byFewest_1 (s_MD_beginNet C.ok hE g_h0 h) (fun I_2 h => ?_)
  refine j_iconst C d_MD_byFewest_4 ic_1 ?_
  refine j_aload_n C d_MD_byFewest_5 rfl 0 rfl ?_
  refine fg_MD_7 C g_h0 d_MD_byFewest_6 ?_
  refine j_ishl C d_MD_byFewest_9 ?_
  refine j_iconst C d_MD_byFewest_10 ic_1 ?_
  refine j_isub C d_MD_byFewest_11 ?_
  refine j_topi (fun v2_3 ev2_3 => ?_)
  have h := h v2_3 ev2_3
  refine j_istore_n C d_MD_byFewest_12 rfl (by decide) (lv' := [(2, .int v2_3), (0, .ref (E.2.2.1 h0)), (1, .int v1)]) rfl ?_
  refine j_iconst C d_MD_byFewest_13 ic_0 ?_
  refine j_istore_n C d_MD_byFewest_14 rfl (by decide) (lv' := [(3, .int (0 : Int32)), (2, .int v2_3), (0, .ref (E.2.2.1 h0)), (1, .int v1)]) rfl ?_
  refine j_lv [2, 3, 1, 0] rfl ?_
  exact k_MD_byFewest_15 C hr hE h0 v1 v2_3 (0 : Int32) I_2 g_h0 h
