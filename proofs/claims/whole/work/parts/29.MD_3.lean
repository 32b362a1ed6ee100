theorem d_MD_group_0 : decode prog_14_method_34_code 0 = .ok (.aload_n 0, 1) := by decide +kernel
theorem d_MD_group_1 : decode prog_14_method_34_code 1 = .ok (.invokevirtual 148, 3) := by decide +kernel
theorem d_MD_group_4 : decode prog_14_method_34_code 4 = .ok (.iconst 0, 1) := by decide +kernel
theorem d_MD_group_5 : decode prog_14_method_34_code 5 = .ok (.istore_n 2, 1) := by decide +kernel
theorem d_MD_group_6 : decode prog_14_method_34_code 6 = .ok (.iconst 0, 1) := by decide +kernel
theorem d_MD_group_7 : decode prog_14_method_34_code 7 = .ok (.istore_n 3, 1) := by decide +kernel
theorem d_MD_group_8 : decode prog_14_method_34_code 8 = .ok (.iload_n 3, 1) := by decide +kernel
theorem d_MD_group_9 : decode prog_14_method_34_code 9 = .ok (.iload_n 1, 1) := by decide +kernel
theorem d_MD_group_10 : decode prog_14_method_34_code 10 = .ok (.if_icmp .gt 151, 3) := by decide +kernel
theorem d_MD_group_13 : decode prog_14_method_34_code 13 = .ok (.iconst 0, 1) := by decide +kernel
theorem d_MD_group_14 : decode prog_14_method_34_code 14 = .ok (.istore 4, 2) := by decide +kernel
theorem d_MD_group_16 : decode prog_14_method_34_code 16 = .ok (.iconst 0, 1) := by decide +kernel
theorem d_MD_group_17 : decode prog_14_method_34_code 17 = .ok (.istore 5, 2) := by decide +kernel
theorem d_MD_group_19 : decode prog_14_method_34_code 19 = .ok (.iload 5, 2) := by decide +kernel
theorem d_MD_group_21 : decode prog_14_method_34_code 21 = .ok (.aload_n 0, 1) := by decide +kernel
theorem d_MD_group_22 : decode prog_14_method_34_code 22 = .ok (.getfield 7, 3) := by decide +kernel
theorem d_MD_group_25 : decode prog_14_method_34_code 25 = .ok (.if_icmp .ge 119, 3) := by decide +kernel
theorem d_MD_group_28 : decode prog_14_method_34_code 28 = .ok (.aload_n 0, 1) := by decide +kernel
theorem d_MD_group_29 : decode prog_14_method_34_code 29 = .ok (.getfield 36, 3) := by decide +kernel
theorem d_MD_group_32 : decode prog_14_method_34_code 32 = .ok (.iload 5, 2) := by decide +kernel
theorem d_MD_group_34 : decode prog_14_method_34_code 34 = .ok (.iaload, 1) := by decide +kernel
theorem d_MD_group_35 : decode prog_14_method_34_code 35 = .ok (.iconst 1, 1) := by decide +kernel
theorem d_MD_group_36 : decode prog_14_method_34_code 36 = .ok (.iload 5, 2) := by decide +kernel
theorem d_MD_group_38 : decode prog_14_method_34_code 38 = .ok (.ishl, 1) := by decide +kernel
theorem d_MD_group_39 : decode prog_14_method_34_code 39 = .ok (.ior, 1) := by decide +kernel
theorem d_MD_group_40 : decode prog_14_method_34_code 40 = .ok (.istore 6, 2) := by decide +kernel
theorem d_MD_group_42 : decode prog_14_method_34_code 42 = .ok (.iconst 1, 1) := by decide +kernel
theorem d_MD_group_43 : decode prog_14_method_34_code 43 = .ok (.istore 7, 2) := by decide +kernel
theorem d_MD_group_45 : decode prog_14_method_34_code 45 = .ok (.iconst 0, 1) := by decide +kernel
theorem d_MD_group_46 : decode prog_14_method_34_code 46 = .ok (.istore 8, 2) := by decide +kernel
theorem d_MD_group_48 : decode prog_14_method_34_code 48 = .ok (.iload 8, 2) := by decide +kernel
theorem d_MD_group_50 : decode prog_14_method_34_code 50 = .ok (.aload_n 0, 1) := by decide +kernel
theorem d_MD_group_51 : decode prog_14_method_34_code 51 = .ok (.getfield 7, 3) := by decide +kernel
theorem d_MD_group_54 : decode prog_14_method_34_code 54 = .ok (.if_icmp .ge 52, 3) := by decide +kernel
theorem d_MD_group_57 : decode prog_14_method_34_code 57 = .ok (.aload_n 0, 1) := by decide +kernel
theorem d_MD_group_58 : decode prog_14_method_34_code 58 = .ok (.getfield 36, 3) := by decide +kernel
theorem d_MD_group_61 : decode prog_14_method_34_code 61 = .ok (.iload 8, 2) := by decide +kernel
theorem d_MD_group_63 : decode prog_14_method_34_code 63 = .ok (.iaload, 1) := by decide +kernel
theorem d_MD_group_64 : decode prog_14_method_34_code 64 = .ok (.iconst 1, 1) := by decide +kernel
theorem d_MD_group_65 : decode prog_14_method_34_code 65 = .ok (.iload 8, 2) := by decide +kernel
theorem d_MD_group_67 : decode prog_14_method_34_code 67 = .ok (.ishl, 1) := by decide +kernel
theorem d_MD_group_68 : decode prog_14_method_34_code 68 = .ok (.ior, 1) := by decide +kernel
theorem d_MD_group_69 : decode prog_14_method_34_code 69 = .ok (.istore 9, 2) := by decide +kernel
theorem d_MD_group_71 : decode prog_14_method_34_code 71 = .ok (.iload 7, 2) := by decide +kernel
theorem d_MD_group_73 : decode prog_14_method_34_code 73 = .ok (.ifCond .eq 24, 3) := by decide +kernel
theorem d_MD_group_76 : decode prog_14_method_34_code 76 = .ok (.iload 8, 2) := by decide +kernel
theorem d_MD_group_78 : decode prog_14_method_34_code 78 = .ok (.iload 5, 2) := by decide +kernel
theorem d_MD_group_80 : decode prog_14_method_34_code 80 = .ok (.if_icmp .eq 13, 3) := by decide +kernel
theorem d_MD_group_83 : decode prog_14_method_34_code 83 = .ok (.iload 9, 2) := by decide +kernel
theorem d_MD_group_85 : decode prog_14_method_34_code 85 = .ok (.iload 6, 2) := by decide +kernel
theorem d_MD_group_87 : decode prog_14_method_34_code 87 = .ok (.iand, 1) := by decide +kernel
theorem d_MD_group_88 : decode prog_14_method_34_code 88 = .ok (.iload 6, 2) := by decide +kernel
theorem d_MD_group_90 : decode prog_14_method_34_code 90 = .ok (.if_icmp .eq 7, 3) := by decide +kernel
theorem d_MD_group_93 : decode prog_14_method_34_code 93 = .ok (.iconst 1, 1) := by decide +kernel
theorem d_MD_group_94 : decode prog_14_method_34_code 94 = .ok (.goto 4, 3) := by decide +kernel
theorem d_MD_group_97 : decode prog_14_method_34_code 97 = .ok (.iconst 0, 1) := by decide +kernel
theorem d_MD_group_98 : decode prog_14_method_34_code 98 = .ok (.istore 7, 2) := by decide +kernel
theorem d_MD_group_100 : decode prog_14_method_34_code 100 = .ok (.iinc 8 1, 3) := by decide +kernel
theorem d_MD_group_103 : decode prog_14_method_34_code 103 = .ok (.goto (-55), 3) := by decide +kernel
theorem d_MD_group_106 : decode prog_14_method_34_code 106 = .ok (.iload 7, 2) := by decide +kernel
theorem d_MD_group_108 : decode prog_14_method_34_code 108 = .ok (.ifCond .eq 26, 3) := by decide +kernel
theorem d_MD_group_111 : decode prog_14_method_34_code 111 = .ok (.iload 6, 2) := by decide +kernel
theorem d_MD_group_113 : decode prog_14_method_34_code 113 = .ok (.iload_n 2, 1) := by decide +kernel
theorem d_MD_group_114 : decode prog_14_method_34_code 114 = .ok (.if_icmp .le 20, 3) := by decide +kernel
theorem d_MD_group_117 : decode prog_14_method_34_code 117 = .ok (.iload 4, 2) := by decide +kernel
theorem d_MD_group_119 : decode prog_14_method_34_code 119 = .ok (.ifCond .eq 10, 3) := by decide +kernel
theorem d_MD_group_122 : decode prog_14_method_34_code 122 = .ok (.iload 6, 2) := by decide +kernel
theorem d_MD_group_124 : decode prog_14_method_34_code 124 = .ok (.iload 4, 2) := by decide +kernel
theorem d_MD_group_126 : decode prog_14_method_34_code 126 = .ok (.if_icmp .ge 8, 3) := by decide +kernel
theorem d_MD_group_129 : decode prog_14_method_34_code 129 = .ok (.iload 6, 2) := by decide +kernel
theorem d_MD_group_131 : decode prog_14_method_34_code 131 = .ok (.goto 5, 3) := by decide +kernel
theorem d_MD_group_134 : decode prog_14_method_34_code 134 = .ok (.iload 4, 2) := by decide +kernel
theorem d_MD_group_136 : decode prog_14_method_34_code 136 = .ok (.istore 4, 2) := by decide +kernel
theorem d_MD_group_138 : decode prog_14_method_34_code 138 = .ok (.iinc 5 1, 3) := by decide +kernel
theorem d_MD_group_141 : decode prog_14_method_34_code 141 = .ok (.goto (-122), 3) := by decide +kernel
theorem d_MD_group_144 : decode prog_14_method_34_code 144 = .ok (.iload 4, 2) := by decide +kernel
theorem d_MD_group_146 : decode prog_14_method_34_code 146 = .ok (.ifCond .ne 6, 3) := by decide +kernel
theorem d_MD_group_149 : decode prog_14_method_34_code 149 = .ok (.bipush (-9), 2) := by decide +kernel
theorem d_MD_group_151 : decode prog_14_method_34_code 151 = .ok (.ireturn, 1) := by decide +kernel
theorem d_MD_group_152 : decode prog_14_method_34_code 152 = .ok (.iload 4, 2) := by decide +kernel
theorem d_MD_group_154 : decode prog_14_method_34_code 154 = .ok (.istore_n 2, 1) := by decide +kernel
theorem d_MD_group_155 : decode prog_14_method_34_code 155 = .ok (.iinc 3 1, 3) := by decide +kernel
theorem d_MD_group_158 : decode prog_14_method_34_code 158 = .ok (.goto (-150), 3) := by decide +kernel
theorem d_MD_group_161 : decode prog_14_method_34_code 161 = .ok (.iload_n 1, 1) := by decide +kernel
theorem d_MD_group_162 : decode prog_14_method_34_code 162 = .ok (.ifCond .ge 8, 3) := by decide +kernel
theorem d_MD_group_165 : decode prog_14_method_34_code 165 = .ok (.bipush (-9), 2) := by decide +kernel
theorem d_MD_group_167 : decode prog_14_method_34_code 167 = .ok (.goto 4, 3) := by decide +kernel
theorem d_MD_group_170 : decode prog_14_method_34_code 170 = .ok (.iload_n 2, 1) := by decide +kernel
theorem d_MD_group_171 : decode prog_14_method_34_code 171 = .ok (.ireturn, 1) := by decide +kernel
def MD_group_48b (h0 : Nat) (v1 : Int32) (v2 : Int32) (v3 : Int32) (v4 : Int32) (v5 : Int32) (v6 : Int32) (v7 : Int32) (v8 : Int32) (I : jM) (K : Int32 → jM → Prop) (X8 : Int32 × Int32 → Prop) (X19 : Int32 × Int32 → Prop) (X48 : Int32 × Int32 → Prop) : Prop :=
  (((I h0 0) ≤ v8 → ((v7 = 0 → X19 (v4, (v5 + 1))) ∧ (¬ v7 = 0 → ((v6 ≤ v2 → X19 (v4, (v5 + 1))) ∧ (¬ v6 ≤ v2 → ((v4 = 0 → X19 (v6, (v5 + 1))) ∧ (¬ v4 = 0 → ((v4 ≤ v6 → X19 (v4, (v5 + 1))) ∧ (¬ v4 ≤ v6 → X19 (v6, (v5 + 1))))))))))) ∧ (¬ (I h0 0) ≤ v8 → (vp_in v8 24 ∧ (∀ v9_1 : Int32, v9_1 = ((I (jr h0 8) v8.toNatClampNeg) ||| ((1 : Int32) <<< (v8 &&& 31))) → ((v7 = 0 → X48 ((0 : Int32), (v8 + 1))) ∧ (¬ v7 = 0 → ((v8 = v5 → X48 ((1 : Int32), (v8 + 1))) ∧ (¬ v8 = v5 → (((v9_1 &&& v6) = v6 → X48 ((0 : Int32), (v8 + 1))) ∧ (¬ (v9_1 &&& v6) = v6 → X48 ((1 : Int32), (v8 + 1))))))))))))
def MD_group_48 (h0 : Nat) (v1 : Int32) (v2 : Int32) (v3 : Int32) (v4 : Int32) (v5 : Int32) (v6 : Int32) (v7 : Int32) (v8 : Int32) (I : jM) (K : Int32 → jM → Prop) (X8 : Int32 × Int32 → Prop) (X19 : Int32 × Int32 → Prop) : Prop :=
  lp (fun (X48 : Int32 × Int32 → Prop) (s : Int32 × Int32) => MD_group_48b h0 v1 v2 v3 v4 v5 v6 s.1 s.2 I K X8 X19 X48) (v7, v8)
set_option maxRecDepth 100000 in
set_option maxHeartbeats 4000000 in
theorem kb_MD_group_48 {Z : jZ} {E : jE} (C : jC Z E prog_14_method_34_code 10 "OutOrderModel" 2 48) (hr : (jZh Z).sig.returnType = (some .int)) (hE : E.2.2.2 = jLM)  (h0 : Nat) (v1 : Int32) (v2 : Int32) (v3 : Int32) (v4 : Int32) (v5 : Int32) (v6 : Int32) (v7 : Int32) (v8 : Int32) (I : jM) (g_h0 : jOB E 11 h0) {K : Int32 → jM → Prop} {X8 : Int32 × Int32 → Prop} {X19 : Int32 × Int32 → Prop} (hX8 : ∀ s : Int32 × Int32, X8 s → jJ Z E 10 (jQi Z E K) 8 [(0, .ref (E.2.2.1 h0)), (1, .int v1), (2, .int s.1), (3, .int s.2)] [] I) (hX19 : ∀ s : Int32 × Int32, X19 s → jJ Z E 10 (jQi Z E K) 19 [(0, .ref (E.2.2.1 h0)), (1, .int v1), (2, .int v2), (3, .int v3), (4, .int s.1), (5, .int s.2)] [] I) {X48 : Int32 × Int32 → Prop} (hX48 : ∀ s : Int32 × Int32, X48 s → jJ Z E 10 (jQi Z E K) 48 [(0, .ref (E.2.2.1 h0)), (1, .int v1), (2, .int v2), (3, .int v3), (4, .int v4), (5, .int v5), (6, .int v6), (7, .int s.1), (8, .int s.2)] [] I) (h : MD_group_48b h0 v1 v2 v3 v4 v5 v6 v7 v8 I K X8 X19 X48) : jJ Z E 10 (jQi Z E K) 48 [(0, .ref (E.2.2.1 h0)), (1, .int v1), (2, .int v2), (3, .int v3), (4, .int v4), (5, .int v5), (6, .int v6), (7, .int v7), (8, .int v8)] [] I := by
  unfold MD_group_48b at h
  refine j_iload C d_MD_group_48 8 rfl ?_
  refine j_aload_n C d_MD_group_50 rfl 0 rfl ?_
  refine fg_MD_7 C g_h0 d_MD_group_51 ?_
  refine j_icmp_ge C d_MD_group_54 (tgt := 106) (by decide) (fun c54 => ?_) (fun c54 => ?_)
  · have h := h.1 c54
    refine j_iload C d_MD_group_106 7 rfl ?_
    refine j_if_eq C d_MD_group_108 (tgt := 134) (by decide) (fun c108 => ?_) (fun c108 => ?_)
    · have h := h.1 c108
      refine j_iload C d_MD_group_134 4 rfl ?_
      refine j_istore C d_MD_group_136 (by decide) (lv' := [(4, .int v4), (0, .ref (E.2.2.1 h0)), (1, .int v1), (2, .int v2), (3, .int v3), (5, .int v5), (6, .int v6), (7, .int v7), (8, .int v8)]) rfl ?_
      refine j_iinc C d_MD_group_138 5 rfl (v := (v5 + 1)) rfl (by decide) (lv' := [(5, .int (v5 + 1)), (4, .int v4), (0, .ref (E.2.2.1 h0)), (1, .int v1), (2, .int v2), (3, .int v3), (6, .int v6), (7, .int v7), (8, .int v8)]) rfl ?_
      refine j_goto C d_MD_group_141 (tgt := 19) (by decide) ?_
      refine j_lv [2, 3, 4, 5, 1, 0] rfl ?_
      exact hX19 (v4, (v5 + 1)) h
    · have h := h.2 c108
      refine j_iload C d_MD_group_111 6 rfl ?_
      refine j_iload_n C d_MD_group_113 rfl 2 rfl ?_
      refine j_icmp_le C d_MD_group_114 (tgt := 134) (by decide) (fun c114 => ?_) (fun c114 => ?_)
      · have h := h.1 c114
        refine j_iload C d_MD_group_134 4 rfl ?_
        refine j_istore C d_MD_group_136 (by decide) (lv' := [(4, .int v4), (0, .ref (E.2.2.1 h0)), (1, .int v1), (2, .int v2), (3, .int v3), (5, .int v5), (6, .int v6), (7, .int v7), (8, .int v8)]) rfl ?_
        refine j_iinc C d_MD_group_138 5 rfl (v := (v5 + 1)) rfl (by decide) (lv' := [(5, .int (v5 + 1)), (4, .int v4), (0, .ref (E.2.2.1 h0)), (1, .int v1), (2, .int v2), (3, .int v3), (6, .int v6), (7, .int v7), (8, .int v8)]) rfl ?_
        refine j_goto C d_MD_group_141 (tgt := 19) (by decide) ?_
        refine j_lv [2, 3, 4, 5, 1, 0] rfl ?_
        exact hX19 (v4, (v5 + 1)) h
      · have h := h.2 c114
        refine j_iload C d_MD_group_117 4 rfl ?_
        refine j_if_eq C d_MD_group_119 (tgt := 129) (by decide) (fun c119 => ?_) (fun c119 => ?_)
        · have h := h.1 c119
          refine j_iload C d_MD_group_129 6 rfl ?_
          refine j_goto C d_MD_group_131 (tgt := 136) (by decide) ?_
          refine j_istore C d_MD_group_136 (by decide) (lv' := [(4, .int v6), (0, .ref (E.2.2.1 h0)), (1, .int v1), (2, .int v2), (3, .int v3), (5, .int v5), (6, .int v6), (7, .int v7), (8, .int v8)]) rfl ?_
          refine j_iinc C d_MD_group_138 5 rfl (v := (v5 + 1)) rfl (by decide) (lv' := [(5, .int (v5 + 1)), (4, .int v6), (0, .ref (E.2.2.1 h0)), (1, .int v1), (2, .int v2), (3, .int v3), (6, .int v6), (7, .int v7), (8, .int v8)]) rfl ?_
          refine j_goto C d_MD_group_141 (tgt := 19) (by decide) ?_
          refine j_lv [2, 3, 4, 5, 1, 0] rfl ?_
          exact hX19 (v6, (v5 + 1)) h
        · have h := h.2 c119
          refine j_iload C d_MD_group_122 6 rfl ?_
          refine j_iload C d_MD_group_124 4 rfl ?_
          refine j_icmp_ge C d_MD_group_126 (tgt := 134) (by decide) (fun c126 => ?_) (fun c126 => ?_)
          · have h := h.1 c126
            refine j_iload C d_MD_group_134 4 rfl ?_
            refine j_istore C d_MD_group_136 (by decide) (lv' := [(4, .int v4), (0, .ref (E.2.2.1 h0)), (1, .int v1), (2, .int v2), (3, .int v3), (5, .int v5), (6, .int v6), (7, .int v7), (8, .int v8)]) rfl ?_
            refine j_iinc C d_MD_group_138 5 rfl (v := (v5 + 1)) rfl (by decide) (lv' := [(5, .int (v5 + 1)), (4, .int v4), (0, .ref (E.2.2.1 h0)), (1, .int v1), (2, .int v2), (3, .int v3), (6, .int v6), (7, .int v7), (8, .int v8)]) rfl ?_
            refine j_goto C d_MD_group_141 (tgt := 19) (by decide) ?_
            refine j_lv [2, 3, 4, 5, 1, 0] rfl ?_
            exact hX19 (v4, (v5 + 1)) h
          · have h := h.2 c126
            refine j_iload C d_MD_group_129 6 rfl ?_
            refine j_goto C d_MD_group_131 (tgt := 136) (by decide) ?_
            refine j_istore C d_MD_group_136 (by decide) (lv' := [(4, .int v6), (0, .ref (E.2.2.1 h0)), (1, .int v1), (2, .int v2), (3, .int v3), (5, .int v5), (6, .int v6), (7, .int v7), (8, .int v8)]) rfl ?_
            refine j_iinc C d_MD_group_138 5 rfl (v := (v5 + 1)) rfl (by decide) (lv' := [(5, .int (v5 + 1)), (4, .int v6), (0, .ref (E.2.2.1 h0)), (1, .int v1), (2, .int v2), (3, .int v3), (6, .int v6), (7, .int v7), (8, .int v8)]) rfl ?_
            refine j_goto C d_MD_group_141 (tgt := 19) (by decide) ?_
            refine j_lv [2, 3, 4, 5, 1, 0] rfl ?_
            exact hX19 (v6, (v5 + 1)) h
  · have h := h.2 c54
    refine j_aload_n C d_MD_group_57 rfl 0 rfl ?_
    refine fg_MD_36 C g_h0 d_MD_group_58 ?_
    refine j_iload C d_MD_group_61 8 rfl ?_
    obtain ⟨hi, h⟩ := h
    refine j_iaload C (sh_MD_8 hE g_h0) hi d_MD_group_63 ?_
    refine j_iconst C d_MD_group_64 ic_1 ?_
    refine j_iload C d_MD_group_65 8 rfl ?_
    refine j_ishl C d_MD_group_67 ?_
    refine j_ior C d_MD_group_68 ?_
    refine j_topi (fun v9_1 ev9_1 => ?_)
    have h := h v9_1 ev9_1
    refine j_istore C d_MD_group_69 (by decide) (lv' := [(9, .int v9_1), (0, .ref (E.2.2.1 h0)), (1, .int v1), (2, .int v2), (3, .int v3), (4, .int v4), (5, .int v5), (6, .int v6), (7, .int v7), (8, .int v8)]) rfl ?_
    refine j_iload C d_MD_group_71 8 rfl ?_
    refine j_if_eq C d_MD_group_73 (tgt := 97) (by decide) (fun c73 => ?_) (fun c73 => ?_)
    · have h := h.1 c73
      refine j_iconst C d_MD_group_97 ic_0 ?_
      refine j_istore C d_MD_group_98 (by decide) (lv' := [(7, .int (0 : Int32)), (9, .int v9_1), (0, .ref (E.2.2.1 h0)), (1, .int v1), (2, .int v2), (3, .int v3), (4, .int v4), (5, .int v5), (6, .int v6), (8, .int v8)]) rfl ?_
      refine j_iinc C d_MD_group_100 9 rfl (v := (v8 + 1)) rfl (by decide) (lv' := [(8, .int (v8 + 1)), (7, .int (0 : Int32)), (9, .int v9_1), (0, .ref (E.2.2.1 h0)), (1, .int v1), (2, .int v2), (3, .int v3), (4, .int v4), (5, .int v5), (6, .int v6)]) rfl ?_
      refine j_goto C d_MD_group_103 (tgt := 48) (by decide) ?_
      refine j_lv [3, 4, 5, 6, 7, 8, 9, 1, 0] rfl ?_
      exact hX48 ((0 : Int32), (v8 + 1)) h
    · have h := h.2 c73
      refine j_iload C d_MD_group_76 9 rfl ?_
      refine j_iload C d_MD_group_78 6 rfl ?_
      refine j_icmp_eq C d_MD_group_80 (tgt := 93) (by decide) (fun c80 => ?_) (fun c80 => ?_)
      · have h := h.1 c80
        refine j_iconst C d_MD_group_93 ic_1 ?_
        refine j_goto C d_MD_group_94 (tgt := 98) (by decide) ?_
        refine j_istore C d_MD_group_98 (by decide) (lv' := [(7, .int (1 : Int32)), (9, .int v9_1), (0, .ref (E.2.2.1 h0)), (1, .int v1), (2, .int v2), (3, .int v3), (4, .int v4), (5, .int v5), (6, .int v6), (8, .int v8)]) rfl ?_
        refine j_iinc C d_MD_group_100 9 rfl (v := (v8 + 1)) rfl (by decide) (lv' := [(8, .int (v8 + 1)), (7, .int (1 : Int32)), (9, .int v9_1), (0, .ref (E.2.2.1 h0)), (1, .int v1), (2, .int v2), (3, .int v3), (4, .int v4), (5, .int v5), (6, .int v6)]) rfl ?_
        refine j_goto C d_MD_group_103 (tgt := 48) (by decide) ?_
        refine j_lv [3, 4, 5, 6, 7, 8, 9, 1, 0] rfl ?_
        exact hX48 ((1 : Int32), (v8 + 1)) h
      · have h := h.2 c80
        refine j_iload C d_MD_group_83 0 rfl ?_
        refine j_iload C d_MD_group_85 7 rfl ?_
        refine j_iand C d_MD_group_87 ?_
        refine j_iload C d_MD_group_88 7 rfl ?_
        refine j_icmp_eq C d_MD_group_90 (tgt := 97) (by decide) (fun c90 => ?_) (fun c90 => ?_)
        · have h := h.1 c90
          refine j_iconst C d_MD_group_97 ic_0 ?_
          refine j_istore C d_MD_group_98 (by decide) (lv' := [(7, .int (0 : Int32)), (9, .int v9_1), (0, .ref (E.2.2.1 h0)), (1, .int v1), (2, .int v2), (3, .int v3), (4, .int v4), (5, .int v5), (6, .int v6), (8, .int v8)]) rfl ?_
          refine j_iinc C d_MD_group_100 9 rfl (v := (v8 + 1)) rfl (by decide) (lv' := [(8, .int (v8 + 1)), (7, .int (0 : Int32)), (9, .int v9_1), (0, .ref (E.2.2.1 h0)), (1, .int v1), (2, .int v2), (3, .int v3), (4, .int v4), (5, .int v5), (6, .int v6)]) rfl ?_
          refine j_goto C d_MD_group_103 (tgt := 48) (by decide) ?_
          refine j_lv [3, 4, 5, 6, 7, 8, 9, 1, 0] rfl ?_
          exact hX48 ((0 : Int32), (v8 + 1)) h
        · have h := h.2 c90
          refine j_iconst C d_MD_group_93 ic_1 ?_
          refine j_goto C d_MD_group_94 (tgt := 98) (by decide) ?_
          refine j_istore C d_MD_group_98 (by decide) (lv' := [(7, .int (1 : Int32)), (9, .int v9_1), (0, .ref (E.2.2.1 h0)), (1, .int v1), (2, .int v2), (3, .int v3), (4, .int v4), (5, .int v5), (6, .int v6), (8, .int v8)]) rfl ?_
          refine j_iinc C d_MD_group_100 9 rfl (v := (v8 + 1)) rfl (by decide) (lv' := [(8, .int (v8 + 1)), (7, .int (1 : Int32)), (9, .int v9_1), (0, .ref (E.2.2.1 h0)), (1, .int v1), (2, .int v2), (3, .int v3), (4, .int v4), (5, .int v5), (6, .int v6)]) rfl ?_
          refine j_goto C d_MD_group_103 (tgt := 48) (by decide) ?_
          refine j_lv [3, 4, 5, 6, 7, 8, 9, 1, 0] rfl ?_
          exact hX48 ((1 : Int32), (v8 + 1)) h
theorem k_MD_group_48 {Z : jZ} {E : jE} (C : jC Z E prog_14_method_34_code 10 "OutOrderModel" 2 48) (hr : (jZh Z).sig.returnType = (some .int)) (hE : E.2.2.2 = jLM)  (h0 : Nat) (v1 : Int32) (v2 : Int32) (v3 : Int32) (v4 : Int32) (v5 : Int32) (v6 : Int32) (v7 : Int32) (v8 : Int32) (I : jM) (g_h0 : jOB E 11 h0) {K : Int32 → jM → Prop} {X8 : Int32 × Int32 → Prop} {X19 : Int32 × Int32 → Prop} (hX8 : ∀ s : Int32 × Int32, X8 s → jJ Z E 10 (jQi Z E K) 8 [(0, .ref (E.2.2.1 h0)), (1, .int v1), (2, .int s.1), (3, .int s.2)] [] I) (hX19 : ∀ s : Int32 × Int32, X19 s → jJ Z E 10 (jQi Z E K) 19 [(0, .ref (E.2.2.1 h0)), (1, .int v1), (2, .int v2), (3, .int v3), (4, .int s.1), (5, .int s.2)] [] I) (h : MD_group_48 h0 v1 v2 v3 v4 v5 v6 v7 v8 I K X8 X19) : jJ Z E 10 (jQi Z E K) 48 [(0, .ref (E.2.2.1 h0)), (1, .int v1), (2, .int v2), (3, .int v3), (4, .int v4), (5, .int v5), (6, .int v6), (7, .int v7), (8, .int v8)] [] I := by
  unfold MD_group_48 at h
  exact h (fun s => jJ Z E 10 (jQi Z E K) 48 [(0, .ref (E.2.2.1 h0)), (1, .int v1), (2, .int v2), (3, .int v3), (4, .int v4), (5, .int v5), (6, .int v6), (7, .int s.1), (8, .int s.2)] [] I) (fun s hs => kb_MD_group_48 C hr hE h0 v1 v2 v3 v4 v5 v6 s.1 s.2 I g_h0 hX8 hX19 (fun s2 h2 => h2) hs)
def MD_group_19b (h0 : Nat) (v1 : Int32) (v2 : Int32) (v3 : Int32) (v4 : Int32) (v5 : Int32) (I : jM) (K : Int32 → jM → Prop) (X8 : Int32 × Int32 → Prop) (X19 : Int32 × Int32 → Prop) : Prop :=
  (((I h0 0) ≤ v5 → ((¬ v4 = 0 → X8 (v4, (v3 + 1))) ∧ (v4 = 0 → K (-9 : Int32) I))) ∧ (¬ (I h0 0) ≤ v5 → (vp_in v5 24 ∧ (∀ v6_1 : Int32, v6_1 = ((I (jr h0 8) v5.toNatClampNeg) ||| ((1 : Int32) <<< (v5 &&& 31))) → MD_group_48 h0 v1 v2 v3 v4 v5 v6_1 (1 : Int32) (0 : Int32) I K X8 X19))))
def MD_group_19 (h0 : Nat) (v1 : Int32) (v2 : Int32) (v3 : Int32) (v4 : Int32) (v5 : Int32) (I : jM) (K : Int32 → jM → Prop) (X8 : Int32 × Int32 → Prop) : Prop :=
  lp (fun (X19 : Int32 × Int32 → Prop) (s : Int32 × Int32) => MD_group_19b h0 v1 v2 v3 s.1 s.2 I K X8 X19) (v4, v5)
set_option maxRecDepth 100000 in
set_option maxHeartbeats 4000000 in
theorem kb_MD_group_19 {Z : jZ} {E : jE} (C : jC Z E prog_14_method_34_code 10 "OutOrderModel" 2 48) (hr : (jZh Z).sig.returnType = (some .int)) (hE : E.2.2.2 = jLM)  (h0 : Nat) (v1 : Int32) (v2 : Int32) (v3 : Int32) (v4 : Int32) (v5 : Int32) (I : jM) (g_h0 : jOB E 11 h0) {K : Int32 → jM → Prop} {X8 : Int32 × Int32 → Prop} (hX8 : ∀ s : Int32 × Int32, X8 s → jJ Z E 10 (jQi Z E K) 8 [(0, .ref (E.2.2.1 h0)), (1, .int v1), (2, .int s.1), (3, .int s.2)] [] I) {X19 : Int32 × Int32 → Prop} (hX19 : ∀ s : Int32 × Int32, X19 s → jJ Z E 10 (jQi Z E K) 19 [(0, .ref (E.2.2.1 h0)), (1, .int v1), (2, .int v2), (3, .int v3), (4, .int s.1), (5, .int s.2)] [] I) (h : MD_group_19b h0 v1 v2 v3 v4 v5 I K X8 X19) : jJ Z E 10 (jQi Z E K) 19 [(0, .ref (E.2.2.1 h0)), (1, .int v1), (2, .int v2), (3, .int v3), (4, .int v4), (5, .int v5)] [] I := by
  unfold MD_group_19b at h
  refine j_iload C d_MD_group_19 5 rfl ?_
  refine j_aload_n C d_MD_group_21 rfl 0 rfl ?_
  refine fg_MD_7 C g_h0 d_MD_group_22 ?_
  refine j_icmp_ge C d_MD_group_25 (tgt := 144) (by decide) (fun c25 => ?_) (fun c25 => ?_)
  · have h := h.1 c25
    refine j_iload C d_MD_group_144 4 rfl ?_
    refine j_if_ne C d_MD_group_146 (tgt := 152) (by decide) (fun c146 => ?_) (fun c146 => ?_)
    · have h := h.1 c146
      refine j_iload C d_MD_group_152 4 rfl ?_
      refine j_istore_n C d_MD_group_154 rfl (by decide) (lv' := [(2, .int v4), (0, .ref (E.2.2.1 h0)), (1, .int v1), (3, .int v3), (4, .int v4), (5, .int v5)]) rfl ?_
      refine j_iinc C d_MD_group_155 3 rfl (v := (v3 + 1)) rfl (by decide) (lv' := [(3, .int (v3 + 1)), (2, .int v4), (0, .ref (E.2.2.1 h0)), (1, .int v1), (4, .int v4), (5, .int v5)]) rfl ?_
      refine j_goto C d_MD_group_158 (tgt := 8) (by decide) ?_
      refine j_lv [2, 3, 1, 0] rfl ?_
      exact hX8 (v4, (v3 + 1)) h
    · have h := h.2 c146
      refine j_bipush C d_MD_group_149 ib_m9 ?_
      exact j_iret C hr d_MD_group_151 h
  · have h := h.2 c25
    refine j_aload_n C d_MD_group_28 rfl 0 rfl ?_
    refine fg_MD_36 C g_h0 d_MD_group_29 ?_
    refine j_iload C d_MD_group_32 5 rfl ?_
    obtain ⟨hi, h⟩ := h
    refine j_iaload C (sh_MD_8 hE g_h0) hi d_MD_group_34 ?_
    refine j_iconst C d_MD_group_35 ic_1 ?_
    refine j_iload C d_MD_group_36 5 rfl ?_
    refine j_ishl C d_MD_group_38 ?_
    refine j_ior C d_MD_group_39 ?_
    refine j_topi (fun v6_1 ev6_1 => ?_)
    have h := h v6_1 ev6_1
    refine j_istore C d_MD_group_40 (by decide) (lv' := [(6, .int v6_1), (0, .ref (E.2.2.1 h0)), (1, .int v1), (2, .int v2), (3, .int v3), (4, .int v4), (5, .int v5)]) rfl ?_
    refine j_iconst C d_MD_group_42 ic_1 ?_
    refine j_istore C d_MD_group_43 (by decide) (lv' := [(7, .int (1 : Int32)), (6, .int v6_1), (0, .ref (E.2.2.1 h0)), (1, .int v1), (2, .int v2), (3, .int v3), (4, .int v4), (5, .int v5)]) rfl ?_
    refine j_iconst C d_MD_group_45 ic_0 ?_
    refine j_istore C d_MD_group_46 (by decide) (lv' := [(8, .int (0 : Int32)), (7, .int (1 : Int32)), (6, .int v6_1), (0, .ref (E.2.2.1 h0)), (1, .int v1), (2, .int v2), (3, .int v3), (4, .int v4), (5, .int v5)]) rfl ?_
    refine j_lv [3, 4, 5, 6, 7, 8, 2, 1, 0] rfl ?_
    exact k_MD_group_48 C hr hE h0 v1 v2 v3 v4 v5 v6_1 (1 : Int32) (0 : Int32) I g_h0 hX8 hX19 h
theorem k_MD_group_19 {Z : jZ} {E : jE} (C : jC Z E prog_14_method_34_code 10 "OutOrderModel" 2 48) (hr : (jZh Z).sig.returnType = (some .int)) (hE : E.2.2.2 = jLM)  (h0 : Nat) (v1 : Int32) (v2 : Int32) (v3 : Int32) (v4 : Int32) (v5 : Int32) (I : jM) (g_h0 : jOB E 11 h0) {K : Int32 → jM → Prop} {X8 : Int32 × Int32 → Prop} (hX8 : ∀ s : Int32 × Int32, X8 s → jJ Z E 10 (jQi Z E K) 8 [(0, .ref (E.2.2.1 h0)), (1, .int v1), (2, .int s.1), (3, .int s.2)] [] I) (h : MD_group_19 h0 v1 v2 v3 v4 v5 I K X8) : jJ Z E 10 (jQi Z E K) 19 [(0, .ref (E.2.2.1 h0)), (1, .int v1), (2, .int v2), (3, .int v3), (4, .int v4), (5, .int v5)] [] I := by
  unfold MD_group_19 at h
  exact h (fun s => jJ Z E 10 (jQi Z E K) 19 [(0, .ref (E.2.2.1 h0)), (1, .int v1), (2, .int v2), (3, .int v3), (4, .int s.1), (5, .int s.2)] [] I) (fun s hs => kb_MD_group_19 C hr hE h0 v1 v2 v3 s.1 s.2 I g_h0 hX8 (fun s2 h2 => h2) hs)
def MD_group_8b (h0 : Nat) (v1 : Int32) (v2 : Int32) (v3 : Int32) (I : jM) (K : Int32 → jM → Prop) (X8 : Int32 × Int32 → Prop) : Prop :=
  ((v1 < v3 → ((0 ≤ v1 → K v2 I) ∧ (¬ 0 ≤ v1 → K (-9 : Int32) I))) ∧ (¬ v1 < v3 → MD_group_19 h0 v1 v2 v3 (0 : Int32) (0 : Int32) I K X8))
def MD_group_8 (h0 : Nat) (v1 : Int32) (v2 : Int32) (v3 : Int32) (I : jM) (K : Int32 → jM → Prop) : Prop :=
  lp (fun (X8 : Int32 × Int32 → Prop) (s : Int32 × Int32) => MD_group_8b h0 v1 s.1 s.2 I K X8) (v2, v3)
set_option maxRecDepth 100000 in
set_option maxHeartbeats 4000000 in
theorem kb_MD_group_8 {Z : jZ} {E : jE} (C : jC Z E prog_14_method_34_code 10 "OutOrderModel" 2 48) (hr : (jZh Z).sig.returnType = (some .int)) (hE : E.2.2.2 = jLM)  (h0 : Nat) (v1 : Int32) (v2 : Int32) (v3 : Int32) (I : jM) (g_h0 : jOB E 11 h0) {K : Int32 → jM → Prop} {X8 : Int32 × Int32 → Prop} (hX8 : ∀ s : Int32 × Int32, X8 s → jJ Z E 10 (jQi Z E K) 8 [(0, .ref (E.2.2.1 h0)), (1, .int v1), (2, .int s.1), (3, .int s.2)] [] I) (h : MD_group_8b h0 v1 v2 v3 I K X8) : jJ Z E 10 (jQi Z E K) 8 [(0, .ref (E.2.2.1 h0)), (1, .int v1), (2, .int v2), (3, .int v3)] [] I := by
  unfold MD_group_8b at h
  refine j_iload_n C d_MD_group_8 rfl 3 rfl ?_
  refine j_iload_n C d_MD_group_9 rfl 1 rfl ?_
  refine j_icmp_gt C d_MD_group_10 (tgt := 161) (by decide) (fun c10 => ?_) (fun c10 => ?_)
  · have h := h.1 c10
    refine j_iload_n C d_MD_group_161 rfl 1 rfl ?_
    refine j_if_ge C d_MD_group_162 (tgt := 170) (by decide) (fun c162 => ?_) (fun c162 => ?_)
    · have h := h.1 c162
      refine j_iload_n C d_MD_group_170 rfl 2 rfl ?_
      exact j_iret C hr d_MD_group_171 h
    · have h := h.2 c162
      refine j_bipush C d_MD_group_165 ib_m9 ?_
      refine j_goto C d_MD_group_167 (tgt := 171) (by decide) ?_
      exact j_iret C hr d_MD_group_171 h
  · have h := h.2 c10
    refine j_iconst C d_MD_group_13 ic_0 ?_
    refine j_istore C d_MD_group_14 (by decide) (lv' := [(4, .int (0 : Int32)), (0, .ref (E.2.2.1 h0)), (1, .int v1), (2, .int v2), (3, .int v3)]) rfl ?_
    refine j_iconst C d_MD_group_16 ic_0 ?_
    refine j_istore C d_MD_group_17 (by decide) (lv' := [(5, .int (0 : Int32)), (4, .int (0 : Int32)), (0, .ref (E.2.2.1 h0)), (1, .int v1), (2, .int v2), (3, .int v3)]) rfl ?_
    refine j_lv [2, 3, 4, 5, 1, 0] rfl ?_
    exact k_MD_group_19 C hr hE h0 v1 v2 v3 (0 : Int32) (0 : Int32) I g_h0 hX8 h
theorem k_MD_group_8 {Z : jZ} {E : jE} (C : jC Z E prog_14_method_34_code 10 "OutOrderModel" 2 48) (hr : (jZh Z).sig.returnType = (some .int)) (hE : E.2.2.2 = jLM)  (h0 : Nat) (v1 : Int32) (v2 : Int32) (v3 : Int32) (I : jM) (g_h0 : jOB E 11 h0) {K : Int32 → jM → Prop} (h : MD_group_8 h0 v1 v2 v3 I K) : jJ Z E 10 (jQi Z E K) 8 [(0, .ref (E.2.2.1 h0)), (1, .int v1), (2, .int v2), (3, .int v3)] [] I := by
  unfold MD_group_8 at h
  exact h (fun s => jJ Z E 10 (jQi Z E K) 8 [(0, .ref (E.2.2.1 h0)), (1, .int v1), (2, .int s.1), (3, .int s.2)] [] I) (fun s hs => kb_MD_group_8 C hr hE h0 v1 s.1 s.2 I g_h0 (fun s2 h2 => h2) hs)
/-- OutOrderModel.group(I)I -/
def MD_group (h0 : Nat) (v1 : Int32) (I : jM) (K : Int32 → jM → Prop) : Prop :=
  MD_goThrough h0 I (fun I_2 => MD_group_8 h0 v1 (0 : Int32) (0 : Int32) I_2 K)
set_option maxRecDepth 100000 in
set_option maxHeartbeats 4000000 in
theorem s_MD_group {l : Launch} {E : jE} (ok : jOK E) (hE : E.2.2.2 = jLM) {h0 : Nat} {v1 : Int32} (g_h0 : jOB E 11 h0) {I : jM} {K : Int32 → jM → Prop} (h : MD_group h0 v1 I K) : jSi l E ⟨"OutOrderModel", "group", "(I)I"⟩ prog_14_method_34_code 10 (some .int) 2 48 [.ref (E.2.2.1 h0), .int v1] I K := by
  refine jS_ofF (own := "OutOrderModel") (by decide +kernel) rfl ok (Nat.le_of_ble_eq_true rfl) (fun Z _ C hr => ?_)
  show jJ Z E 10 (jQi Z E K) 0 [(0, .ref (E.2.2.1 h0)), (1, .int v1)] [] I
  unfold MD_group at h
  refine j_aload_n C d_MD_group_0 rfl 0 rfl ?_
  refine j_callVv (As := []) C jcl_MD cw_MD_148 w_901 ws_37 g_h0 rfl rfl (by decide) (by decide) (Nat.le_of_ble_eq_true rfl) d_MD_group_1 (s_MD_goThrough C.ok hE g_h0 h) (fun I_2 h => ?_)
  refine j_iconst C d_MD_group_4 ic_0 ?_
  refine j_istore_n C d_MD_group_5 rfl (by decide) (lv' := [(2, .int (0 : Int32)), (0, .ref (E.2.2.1 h0)), (1, .int v1)]) rfl ?_
  refine j_iconst C d_MD_group_6 ic_0 ?_
  refine j_istore_n C d_MD_group_7 rfl (by decide) (lv' := [(3, .int (0 : Int32)), (2, .int (0 : Int32)), (0, .ref (E.2.2.1 h0)), (1, .int v1)]) rfl ?_
  refine j_lv [2, 3, 1, 0] rfl ?_
  exact k_MD_group_8 C hr hE h0 v1 (0 : Int32) (0 : Int32) I_2 g_h0 h
theorem d_MD_hold_0 : decode prog_14_method_11_code 0 = .ok (.aload_n 0, 1) := by decide +kernel
theorem d_MD_hold_1 : decode prog_14_method_11_code 1 = .ok (.iload_n 1, 1) := by decide +kernel
theorem d_MD_hold_2 : decode prog_14_method_11_code 2 = .ok (.invokevirtual 90, 3) := by decide +kernel
theorem d_MD_hold_5 : decode prog_14_method_11_code 5 = .ok (.ifCond .eq 13, 3) := by decide +kernel
theorem d_MD_hold_8 : decode prog_14_method_11_code 8 = .ok (.aload_n 0, 1) := by decide +kernel
theorem d_MD_hold_9 : decode prog_14_method_11_code 9 = .ok (.getfield 20, 3) := by decide +kernel
theorem d_MD_hold_12 : decode prog_14_method_11_code 12 = .ok (.iload_n 1, 1) := by decide +kernel
theorem d_MD_hold_13 : decode prog_14_method_11_code 13 = .ok (.baload, 1) := by decide +kernel
theorem d_MD_hold_14 : decode prog_14_method_11_code 14 = .ok (.iload_n 2, 1) := by decide +kernel
theorem d_MD_hold_15 : decode prog_14_method_11_code 15 = .ok (.if_icmp .ne 5, 3) := by decide +kernel
theorem d_MD_hold_18 : decode prog_14_method_11_code 18 = .ok (.iconst 0, 1) := by decide +kernel
theorem d_MD_hold_19 : decode prog_14_method_11_code 19 = .ok (.ireturn, 1) := by decide +kernel
theorem d_MD_hold_20 : decode prog_14_method_11_code 20 = .ok (.aload_n 0, 1) := by decide +kernel
theorem d_MD_hold_21 : decode prog_14_method_11_code 21 = .ok (.getfield 20, 3) := by decide +kernel
theorem d_MD_hold_24 : decode prog_14_method_11_code 24 = .ok (.iload_n 1, 1) := by decide +kernel
theorem d_MD_hold_25 : decode prog_14_method_11_code 25 = .ok (.iload_n 2, 1) := by decide +kernel
theorem d_MD_hold_26 : decode prog_14_method_11_code 26 = .ok (.bastore, 1) := by decide +kernel
theorem d_MD_hold_27 : decode prog_14_method_11_code 27 = .ok (.iconst 1, 1) := by decide +kernel
theorem d_MD_hold_28 : decode prog_14_method_11_code 28 = .ok (.ireturn, 1) := by decide +kernel
/-- OutOrderModel.hold(IZ)Z -/
def MD_hold (h0 : Nat) (v1 : Int32) (v2 : Int32) (I : jM) (K : Int32 → jM → Prop) : Prop :=
  MD_isUnknown h0 v1 I (fun r_1 => ((r_1 = 0 → K (0 : Int32) I) ∧ (¬ r_1 = 0 → (vp_in v1 24 ∧ ((¬ (I (jr h0 3) v1.toNatClampNeg) = v2 → (vp_in v1 24 ∧ (∀ I_2 : jM, I_2 = jwr I (jr h0 3) v1.toNatClampNeg (vp_nar .boolean v2) → K (1 : Int32) I_2))) ∧ ((I (jr h0 3) v1.toNatClampNeg) = v2 → K (0 : Int32) I))))))
set_option maxRecDepth 100000 in
set_option maxHeartbeats 4000000 in
theorem s_MD_hold {l : Launch} {E : jE} (ok : jOK E) (hE : E.2.2.2 = jLM) {h0 : Nat} {v1 : Int32} {v2 : Int32} (g_h0 : jOB E 11 h0) {I : jM} {K : Int32 → jM → Prop} (h : MD_hold h0 v1 v2 I K) : jSi l E ⟨"OutOrderModel", "hold", "(IZ)Z"⟩ prog_14_method_11_code 3 (some .boolean) 2 43 [.ref (E.2.2.1 h0), .int v1, .int v2] I K := by
  refine jS_ofF (own := "OutOrderModel") (by decide +kernel) rfl ok (Nat.le_of_ble_eq_true rfl) (fun Z _ C hr => ?_)
  show jJ Z E 3 (jQi Z E K) 0 [(0, .ref (E.2.2.1 h0)), (1, .int v1), (2, .int v2)] [] I
  unfold MD_hold at h
  refine j_aload_n C d_MD_hold_0 rfl 0 rfl ?_
  refine j_iload_n C d_MD_hold_1 rfl 1 rfl ?_
  refine j_callVi (As := [.int v1]) C jcl_MD cw_MD_90 w_829 ws_26 g_h0 rfl rfl (by decide) (by decide) (Nat.le_of_ble_eq_true rfl) d_MD_hold_2 (s_MD_isUnknown C.ok g_h0 h) (fun r_1 I2 h => ?_)
  obtain ⟨rfl, h⟩ := h
  refine j_if_eq C d_MD_hold_5 (tgt := 18) (by decide) (fun c5 => ?_) (fun c5 => ?_)
  · have h := h.1 c5
    refine j_iconst C d_MD_hold_18 ic_0 ?_
    exact j_zret C hr (by decide) d_MD_hold_19 h
  · have h := h.2 c5
    refine j_aload_n C d_MD_hold_8 rfl 0 rfl ?_
    refine fg_MD_20 C g_h0 d_MD_hold_9 ?_
    refine j_iload_n C d_MD_hold_12 rfl 1 rfl ?_
    obtain ⟨hi, h⟩ := h
    refine j_zaload C (sh_MD_3 hE g_h0) hi d_MD_hold_13 ?_
    refine j_iload_n C d_MD_hold_14 rfl 2 rfl ?_
    refine j_icmp_ne C d_MD_hold_15 (tgt := 20) (by decide) (fun c15 => ?_) (fun c15 => ?_)
    · have h := h.1 c15
      refine j_aload_n C d_MD_hold_20 rfl 0 rfl ?_
      refine fg_MD_20 C g_h0 d_MD_hold_21 ?_
      refine j_iload_n C d_MD_hold_24 rfl 1 rfl ?_
      refine j_iload_n C d_MD_hold_25 rfl 2 rfl ?_
      obtain ⟨hi, h⟩ := h
      refine j_zastore C (sh_MD_3 hE g_h0) hi d_MD_hold_26 ?_
      have h := h _ rfl
      generalize eI_2 : (jwr I (jr h0 3) v1.toNatClampNeg (vp_nar .boolean v2) : jM) = I_2 at h ⊢
      refine j_iconst C d_MD_hold_27 ic_1 ?_
      exact j_zret C hr (by decide) d_MD_hold_28 h
    · have h := h.2 c15
      refine j_iconst C d_MD_hold_18 ic_0 ?_
      exact j_zret C hr (by decide) d_MD_hold_19 h
theorem d_MD_isSolved_0 : decode prog_14_method_56_code 0 = .ok (.aload_n 0, 1) := by decide +kernel
theorem d_MD_isSolved_1 : decode prog_14_method_56_code 1 = .ok (.getfield 176, 3) := by decide +kernel
theorem d_MD_isSolved_4 : decode prog_14_method_56_code 4 = .ok (.aload_n 0, 1) := by decide +kernel
theorem d_MD_isSolved_5 : decode prog_14_method_56_code 5 = .ok (.getfield 7, 3) := by decide +kernel
theorem d_MD_isSolved_8 : decode prog_14_method_56_code 8 = .ok (.if_icmp .ne 7, 3) := by decide +kernel
theorem d_MD_isSolved_11 : decode prog_14_method_56_code 11 = .ok (.iconst 1, 1) := by decide +kernel
theorem d_MD_isSolved_12 : decode prog_14_method_56_code 12 = .ok (.goto 4, 3) := by decide +kernel
theorem d_MD_isSolved_15 : decode prog_14_method_56_code 15 = .ok (.iconst 0, 1) := by decide +kernel
theorem d_MD_isSolved_16 : decode prog_14_method_56_code 16 = .ok (.istore_n 1, 1) := by decide +kernel
theorem d_MD_isSolved_17 : decode prog_14_method_56_code 17 = .ok (.iconst 0, 1) := by decide +kernel
theorem d_MD_isSolved_18 : decode prog_14_method_56_code 18 = .ok (.istore_n 2, 1) := by decide +kernel
theorem d_MD_isSolved_19 : decode prog_14_method_56_code 19 = .ok (.iload_n 2, 1) := by decide +kernel
theorem d_MD_isSolved_20 : decode prog_14_method_56_code 20 = .ok (.aload_n 0, 1) := by decide +kernel
theorem d_MD_isSolved_21 : decode prog_14_method_56_code 21 = .ok (.getfield 7, 3) := by decide +kernel
theorem d_MD_isSolved_24 : decode prog_14_method_56_code 24 = .ok (.if_icmp .ge 28, 3) := by decide +kernel
theorem d_MD_isSolved_27 : decode prog_14_method_56_code 27 = .ok (.iload_n 1, 1) := by decide +kernel
theorem d_MD_isSolved_28 : decode prog_14_method_56_code 28 = .ok (.ifCond .eq 24, 3) := by decide +kernel
theorem d_MD_isSolved_31 : decode prog_14_method_56_code 31 = .ok (.aload_n 0, 1) := by decide +kernel
theorem d_MD_isSolved_32 : decode prog_14_method_56_code 32 = .ok (.getfield 63, 3) := by decide +kernel
theorem d_MD_isSolved_35 : decode prog_14_method_56_code 35 = .ok (.iload_n 2, 1) := by decide +kernel
theorem d_MD_isSolved_36 : decode prog_14_method_56_code 36 = .ok (.iaload, 1) := by decide +kernel
theorem d_MD_isSolved_37 : decode prog_14_method_56_code 37 = .ok (.ifCond .eq 7, 3) := by decide +kernel
theorem d_MD_isSolved_40 : decode prog_14_method_56_code 40 = .ok (.iconst 1, 1) := by decide +kernel
theorem d_MD_isSolved_41 : decode prog_14_method_56_code 41 = .ok (.goto 4, 3) := by decide +kernel
theorem d_MD_isSolved_44 : decode prog_14_method_56_code 44 = .ok (.iconst 0, 1) := by decide +kernel
theorem d_MD_isSolved_45 : decode prog_14_method_56_code 45 = .ok (.istore_n 1, 1) := by decide +kernel
theorem d_MD_isSolved_46 : decode prog_14_method_56_code 46 = .ok (.iinc 2 1, 3) := by decide +kernel
theorem d_MD_isSolved_49 : decode prog_14_method_56_code 49 = .ok (.goto (-30), 3) := by decide +kernel
theorem d_MD_isSolved_52 : decode prog_14_method_56_code 52 = .ok (.iload_n 1, 1) := by decide +kernel
theorem d_MD_isSolved_53 : decode prog_14_method_56_code 53 = .ok (.ireturn, 1) := by decide +kernel
def MD_isSolved_19b (h0 : Nat) (v1 : Int32) (v2 : Int32) (I : jM) (K : Int32 → Prop) (X19 : Int32 × Int32 → Prop) : Prop :=
  (((I h0 0) ≤ v2 → (narrow .boolean (.int v1) = .int v1 ∧ K v1)) ∧ (¬ (I h0 0) ≤ v2 → ((v1 = 0 → (narrow .boolean (.int v1) = .int v1 ∧ K v1)) ∧ (¬ v1 = 0 → (vp_in v2 24 ∧ (((I (jr h0 20) v2.toNatClampNeg) = 0 → X19 ((0 : Int32), (v2 + 1))) ∧ (¬ (I (jr h0 20) v2.toNatClampNeg) = 0 → X19 ((1 : Int32), (v2 + 1)))))))))
def MD_isSolved_19 (h0 : Nat) (v1 : Int32) (v2 : Int32) (I : jM) (K : Int32 → Prop) : Prop :=
  lp (fun (X19 : Int32 × Int32 → Prop) (s : Int32 × Int32) => MD_isSolved_19b h0 s.1 s.2 I K X19) (v1, v2)
set_option maxRecDepth 100000 in
set_option maxHeartbeats 4000000 in
theorem kb_MD_isSolved_19 {Z : jZ} {E : jE} (C : jC Z E prog_14_method_56_code 3 "OutOrderModel" 0 0) (hr : (jZh Z).sig.returnType = (some .boolean)) (hE : E.2.2.2 = jLM)  (h0 : Nat) (v1 : Int32) (v2 : Int32) (I : jM) (g_h0 : jOB E 11 h0) {K : Int32 → Prop} {X19 : Int32 × Int32 → Prop} (hX19 : ∀ s : Int32 × Int32, X19 s → jJ Z E 3 (jQi Z E (fun r I2 => I = I2 ∧ K r)) 19 [(0, .ref (E.2.2.1 h0)), (1, .int s.1), (2, .int s.2)] [] I) (h : MD_isSolved_19b h0 v1 v2 I K X19) : jJ Z E 3 (jQi Z E (fun r I2 => I = I2 ∧ K r)) 19 [(0, .ref (E.2.2.1 h0)), (1, .int v1), (2, .int v2)] [] I := by
  unfold MD_isSolved_19b at h
  refine j_iload_n C d_MD_isSolved_19 rfl 2 rfl ?_
  refine j_aload_n C d_MD_isSolved_20 rfl 0 rfl ?_
  refine fg_MD_7 C g_h0 d_MD_isSolved_21 ?_
  refine j_icmp_ge C d_MD_isSolved_24 (tgt := 52) (by decide) (fun c24 => ?_) (fun c24 => ?_)
  · have h := h.1 c24
    refine j_iload_n C d_MD_isSolved_52 rfl 1 rfl ?_
    obtain ⟨hz, h⟩ := h
    exact j_zret C hr hz d_MD_isSolved_53 ⟨rfl, h⟩
  · have h := h.2 c24
    refine j_iload_n C d_MD_isSolved_27 rfl 1 rfl ?_
    refine j_if_eq C d_MD_isSolved_28 (tgt := 52) (by decide) (fun c28 => ?_) (fun c28 => ?_)
    · have h := h.1 c28
      refine j_iload_n C d_MD_isSolved_52 rfl 1 rfl ?_
      obtain ⟨hz, h⟩ := h
      exact j_zret C hr hz d_MD_isSolved_53 ⟨rfl, h⟩
    · have h := h.2 c28
      refine j_aload_n C d_MD_isSolved_31 rfl 0 rfl ?_
      refine fg_MD_63 C g_h0 d_MD_isSolved_32 ?_
      refine j_iload_n C d_MD_isSolved_35 rfl 2 rfl ?_
      obtain ⟨hi, h⟩ := h
      refine j_iaload C (sh_MD_20 hE g_h0) hi d_MD_isSolved_36 ?_
      refine j_if_eq C d_MD_isSolved_37 (tgt := 44) (by decide) (fun c37 => ?_) (fun c37 => ?_)
      · have h := h.1 c37
        refine j_iconst C d_MD_isSolved_44 ic_0 ?_
        refine j_istore_n C d_MD_isSolved_45 rfl (by decide) (lv' := [(1, .int (0 : Int32)), (0, .ref (E.2.2.1 h0)), (2, .int v2)]) rfl ?_
        refine j_iinc C d_MD_isSolved_46 2 rfl (v := (v2 + 1)) rfl (by decide) (lv' := [(2, .int (v2 + 1)), (1, .int (0 : Int32)), (0, .ref (E.2.2.1 h0))]) rfl ?_
        refine j_goto C d_MD_isSolved_49 (tgt := 19) (by decide) ?_
        refine j_lv [2, 1, 0] rfl ?_
        exact hX19 ((0 : Int32), (v2 + 1)) h
      · have h := h.2 c37
        refine j_iconst C d_MD_isSolved_40 ic_1 ?_
        refine j_goto C d_MD_isSolved_41 (tgt := 45) (by decide) ?_
        refine j_istore_n C d_MD_isSolved_45 rfl (by decide) (lv' := [(1, .int (1 : Int32)), (0, .ref (E.2.2.1 h0)), (2, .int v2)]) rfl ?_
        refine j_iinc C d_MD_isSolved_46 2 rfl (v := (v2 + 1)) rfl (by decide) (lv' := [(2, .int (v2 + 1)), (1, .int (1 : Int32)), (0, .ref (E.2.2.1 h0))]) rfl ?_
        refine j_goto C d_MD_isSolved_49 (tgt := 19) (by decide) ?_
        refine j_lv [2, 1, 0] rfl ?_
        exact hX19 ((1 : Int32), (v2 + 1)) h
theorem k_MD_isSolved_19 {Z : jZ} {E : jE} (C : jC Z E prog_14_method_56_code 3 "OutOrderModel" 0 0) (hr : (jZh Z).sig.returnType = (some .boolean)) (hE : E.2.2.2 = jLM)  (h0 : Nat) (v1 : Int32) (v2 : Int32) (I : jM) (g_h0 : jOB E 11 h0) {K : Int32 → Prop} (h : MD_isSolved_19 h0 v1 v2 I K) : jJ Z E 3 (jQi Z E (fun r I2 => I = I2 ∧ K r)) 19 [(0, .ref (E.2.2.1 h0)), (1, .int v1), (2, .int v2)] [] I := by
  unfold MD_isSolved_19 at h
  exact h (fun s => jJ Z E 3 (jQi Z E (fun r I2 => I = I2 ∧ K r)) 19 [(0, .ref (E.2.2.1 h0)), (1, .int s.1), (2, .int s.2)] [] I) (fun s hs => kb_MD_isSolved_19 C hr hE h0 s.1 s.2 I g_h0 (fun s2 h2 => h2) hs)
/-- OutOrderModel.isSolved()Z -/
def MD_isSolved (h0 : Nat) (I : jM) (K : Int32 → Prop) : Prop :=
  ((¬ (I h0 18) = (I h0 0) → MD_isSolved_19 h0 (0 : Int32) (0 : Int32) I K) ∧ ((I h0 18) = (I h0 0) → MD_isSolved_19 h0 (1 : Int32) (0 : Int32) I K))
set_option maxRecDepth 100000 in
set_option maxHeartbeats 4000000 in
theorem s_MD_isSolved {l : Launch} {E : jE} (ok : jOK E) (hE : E.2.2.2 = jLM) {h0 : Nat} (g_h0 : jOB E 11 h0) {I : jM} {K : Int32 → Prop} (h : MD_isSolved h0 I K) : jSi l E ⟨"OutOrderModel", "isSolved", "()Z"⟩ prog_14_method_56_code 3 (some .boolean) 0 0 [.ref (E.2.2.1 h0)] I (fun r I2 => I = I2 ∧ K r) := by
  refine jS_ofF (own := "OutOrderModel") (by decide +kernel) rfl ok (Nat.le_of_ble_eq_true rfl) (fun Z _ C hr => ?_)
  show jJ Z E 3 (jQi Z E (fun r I2 => I = I2 ∧ K r)) 0 [(0, .ref (E.2.2.1 h0))] [] I
  unfold MD_isSolved at h
  refine j_aload_n C d_MD_isSolved_0 rfl 0 rfl ?_
  refine fg_MD_176 C g_h0 d_MD_isSolved_1 ?_
  refine j_aload_n C d_MD_isSolved_4 rfl 0 rfl ?_
  refine fg_MD_7 C g_h0 d_MD_isSolved_5 ?_
  refine j_icmp_ne C d_MD_isSolved_8 (tgt := 15) (by decide) (fun c8 => ?_) (fun c8 => ?_)
  · have h := h.1 c8
    refine j_iconst C d_MD_isSolved_15 ic_0 ?_
    refine j_istore_n C d_MD_isSolved_16 rfl (by decide) (lv' := [(1, .int (0 : Int32)), (0, .ref (E.2.2.1 h0))]) rfl ?_
    refine j_iconst C d_MD_isSolved_17 ic_0 ?_
    refine j_istore_n C d_MD_isSolved_18 rfl (by decide) (lv' := [(2, .int (0 : Int32)), (1, .int (0 : Int32)), (0, .ref (E.2.2.1 h0))]) rfl ?_
    refine j_lv [2, 1, 0] rfl ?_
    exact k_MD_isSolved_19 C hr hE h0 (0 : Int32) (0 : Int32) I g_h0 h
  · have h := h.2 c8
    refine j_iconst C d_MD_isSolved_11 ic_1 ?_
    refine j_goto C d_MD_isSolved_12 (tgt := 16) (by decide) ?_
    refine j_istore_n C d_MD_isSolved_16 rfl (by decide) (lv' := [(1, .int (1 : Int32)), (0, .ref (E.2.2.1 h0))]) rfl ?_
    refine j_iconst C d_MD_isSolved_17 ic_0 ?_
    refine j_istore_n C d_MD_isSolved_18 rfl (by decide) (lv' := [(2, .int (0 : Int32)), (1, .int (1 : Int32)), (0, .ref (E.2.2.1 h0))]) rfl ?_
    refine j_lv [2, 1, 0] rfl ?_
    exact k_MD_isSolved_19 C hr hE h0 (1 : Int32) (0 : Int32) I g_h0 h
theorem d_MD_modulo_0 : decode prog_14_method_7_code 0 = .ok (.lload_n 1, 1) := by decide +kernel
theorem d_MD_modulo_1 : decode prog_14_method_7_code 1 = .ok (.aload_n 0, 1) := by decide +kernel
theorem d_MD_modulo_2 : decode prog_14_method_7_code 2 = .ok (.getfield 13, 3) := by decide +kernel
theorem d_MD_modulo_5 : decode prog_14_method_7_code 5 = .ok (.i2l, 1) := by decide +kernel
theorem d_MD_modulo_6 : decode prog_14_method_7_code 6 = .ok (.lrem, 1) := by decide +kernel
theorem d_MD_modulo_7 : decode prog_14_method_7_code 7 = .ok (.lstore_n 3, 1) := by decide +kernel
theorem d_MD_modulo_8 : decode prog_14_method_7_code 8 = .ok (.lload_n 3, 1) := by decide +kernel
theorem d_MD_modulo_9 : decode prog_14_method_7_code 9 = .ok (.lconst 0, 1) := by decide +kernel
theorem d_MD_modulo_10 : decode prog_14_method_7_code 10 = .ok (.lcmp, 1) := by decide +kernel
theorem d_MD_modulo_11 : decode prog_14_method_7_code 11 = .ok (.ifCond .ge 13, 3) := by decide +kernel
theorem d_MD_modulo_14 : decode prog_14_method_7_code 14 = .ok (.lload_n 3, 1) := by decide +kernel
theorem d_MD_modulo_15 : decode prog_14_method_7_code 15 = .ok (.aload_n 0, 1) := by decide +kernel
theorem d_MD_modulo_16 : decode prog_14_method_7_code 16 = .ok (.getfield 13, 3) := by decide +kernel
theorem d_MD_modulo_19 : decode prog_14_method_7_code 19 = .ok (.i2l, 1) := by decide +kernel
theorem d_MD_modulo_20 : decode prog_14_method_7_code 20 = .ok (.ladd, 1) := by decide +kernel
theorem d_MD_modulo_21 : decode prog_14_method_7_code 21 = .ok (.goto 4, 3) := by decide +kernel
theorem d_MD_modulo_24 : decode prog_14_method_7_code 24 = .ok (.lload_n 3, 1) := by decide +kernel
theorem d_MD_modulo_25 : decode prog_14_method_7_code 25 = .ok (.l2i, 1) := by decide +kernel
theorem d_MD_modulo_26 : decode prog_14_method_7_code 26 = .ok (.ireturn, 1) := by decide +kernel
/-- OutOrderModel.modulo(J)I -/
def MD_modulo (h0 : Nat) (w1 : Int64) (I : jM) (K : Int32 → Prop) : Prop :=
  (¬ (I h0 1).toInt64 = 0 ∧ (∀ w3_1 : Int64, w3_1 = (w1 - w1 / (I h0 1).toInt64 * (I h0 1).toInt64) → ((0 ≤ (lg_cmp w3_1 (0 : Int64)) → K w3_1.toInt32) ∧ (¬ 0 ≤ (lg_cmp w3_1 (0 : Int64)) → K ((w3_1 + (I h0 1).toInt64).toInt32)))))
set_option maxRecDepth 100000 in
set_option maxHeartbeats 4000000 in
theorem s_MD_modulo {l : Launch} {E : jE} (ok : jOK E)  {h0 : Nat} {w1 : Int64} (g_h0 : jOB E 11 h0) {I : jM} {K : Int32 → Prop} (h : MD_modulo h0 w1 I K) : jSi l E ⟨"OutOrderModel", "modulo", "(J)I"⟩ prog_14_method_7_code 5 (some .int) 0 0 [.ref (E.2.2.1 h0), .long w1] I (fun r I2 => I = I2 ∧ K r) := by
  refine jS_ofF (own := "OutOrderModel") (by decide +kernel) rfl ok (Nat.le_of_ble_eq_true rfl) (fun Z _ C hr => ?_)
  show jJ Z E 5 (jQi Z E (fun r I2 => I = I2 ∧ K r)) 0 [(0, .ref (E.2.2.1 h0)), (1, .long w1)] [] I
  unfold MD_modulo at h
  refine j_lload_n C d_MD_modulo_0 rfl 1 rfl ?_
  refine j_aload_n C d_MD_modulo_1 rfl 0 rfl ?_
  refine fg_MD_13 C g_h0 d_MD_modulo_2 ?_
  refine j_i2l C d_MD_modulo_5 ?_
  obtain ⟨hn, h⟩ := h
  refine j_lrem C d_MD_modulo_6 hn ?_
  refine j_topl (fun w3_1 ew3_1 => ?_)
  have h := h w3_1 ew3_1
  refine j_lstore_n C d_MD_modulo_7 rfl (by decide) (lv' := [(3, .long w3_1), (0, .ref (E.2.2.1 h0)), (1, .long w1)]) rfl ?_
  refine j_lload_n C d_MD_modulo_8 rfl 0 rfl ?_
  refine j_lconst (v := (0 : Int64)) C d_MD_modulo_9 (by decide) ?_
  refine j_lcmp C d_MD_modulo_10 ?_
  refine j_if_ge C d_MD_modulo_11 (tgt := 24) (by decide) (fun c11 => ?_) (fun c11 => ?_)
  · have h := h.1 c11
    refine j_lload_n C d_MD_modulo_24 rfl 0 rfl ?_
    refine j_l2i C d_MD_modulo_25 ?_
    exact j_iret C hr d_MD_modulo_26 ⟨rfl, h⟩
  · have h := h.2 c11
    refine j_lload_n C d_MD_modulo_14 rfl 0 rfl ?_
    refine j_aload_n C d_MD_modulo_15 rfl 1 rfl ?_
    refine fg_MD_13 C g_h0 d_MD_modulo_16 ?_
    refine j_i2l C d_MD_modulo_19 ?_
    refine j_ladd C d_MD_modulo_20 ?_
    refine j_goto C d_MD_modulo_21 (tgt := 25) (by decide) ?_
    refine j_l2i C d_MD_modulo_25 ?_
    exact j_iret C hr d_MD_modulo_26 ⟨rfl, h⟩
theorem d_MD_inverse_0 : decode prog_14_method_48_code 0 = .ok (.lconst 1, 1) := by decide +kernel
theorem d_MD_inverse_1 : decode prog_14_method_48_code 1 = .ok (.lstore_n 2, 1) := by decide +kernel
theorem d_MD_inverse_2 : decode prog_14_method_48_code 2 = .ok (.iload_n 1, 1) := by decide +kernel
theorem d_MD_inverse_3 : decode prog_14_method_48_code 3 = .ok (.i2l, 1) := by decide +kernel
theorem d_MD_inverse_4 : decode prog_14_method_48_code 4 = .ok (.lstore 4, 2) := by decide +kernel
theorem d_MD_inverse_6 : decode prog_14_method_48_code 6 = .ok (.aload_n 0, 1) := by decide +kernel
theorem d_MD_inverse_7 : decode prog_14_method_48_code 7 = .ok (.getfield 13, 3) := by decide +kernel
theorem d_MD_inverse_10 : decode prog_14_method_48_code 10 = .ok (.iconst 2, 1) := by decide +kernel
theorem d_MD_inverse_11 : decode prog_14_method_48_code 11 = .ok (.isub, 1) := by decide +kernel
theorem d_MD_inverse_12 : decode prog_14_method_48_code 12 = .ok (.istore 6, 2) := by decide +kernel
theorem d_MD_inverse_14 : decode prog_14_method_48_code 14 = .ok (.iload 6, 2) := by decide +kernel
theorem d_MD_inverse_16 : decode prog_14_method_48_code 16 = .ok (.ifCond .le 48, 3) := by decide +kernel
theorem d_MD_inverse_19 : decode prog_14_method_48_code 19 = .ok (.iload 6, 2) := by decide +kernel
theorem d_MD_inverse_21 : decode prog_14_method_48_code 21 = .ok (.iconst 1, 1) := by decide +kernel
theorem d_MD_inverse_22 : decode prog_14_method_48_code 22 = .ok (.iand, 1) := by decide +kernel
theorem d_MD_inverse_23 : decode prog_14_method_48_code 23 = .ok (.iconst 1, 1) := by decide +kernel
theorem d_MD_inverse_24 : decode prog_14_method_48_code 24 = .ok (.if_icmp .ne 16, 3) := by decide +kernel
theorem d_MD_inverse_27 : decode prog_14_method_48_code 27 = .ok (.lload_n 2, 1) := by decide +kernel
theorem d_MD_inverse_28 : decode prog_14_method_48_code 28 = .ok (.lload 4, 2) := by decide +kernel
theorem d_MD_inverse_30 : decode prog_14_method_48_code 30 = .ok (.lmul, 1) := by decide +kernel
theorem d_MD_inverse_31 : decode prog_14_method_48_code 31 = .ok (.aload_n 0, 1) := by decide +kernel
theorem d_MD_inverse_32 : decode prog_14_method_48_code 32 = .ok (.getfield 13, 3) := by decide +kernel
theorem d_MD_inverse_35 : decode prog_14_method_48_code 35 = .ok (.i2l, 1) := by decide +kernel
theorem d_MD_inverse_36 : decode prog_14_method_48_code 36 = .ok (.lrem, 1) := by decide +kernel
theorem d_MD_inverse_37 : decode prog_14_method_48_code 37 = .ok (.goto 4, 3) := by decide +kernel
theorem d_MD_inverse_40 : decode prog_14_method_48_code 40 = .ok (.lload_n 2, 1) := by decide +kernel
theorem d_MD_inverse_41 : decode prog_14_method_48_code 41 = .ok (.lstore_n 2, 1) := by decide +kernel
theorem d_MD_inverse_42 : decode prog_14_method_48_code 42 = .ok (.lload 4, 2) := by decide +kernel
theorem d_MD_inverse_44 : decode prog_14_method_48_code 44 = .ok (.lload 4, 2) := by decide +kernel
theorem d_MD_inverse_46 : decode prog_14_method_48_code 46 = .ok (.lmul, 1) := by decide +kernel
theorem d_MD_inverse_47 : decode prog_14_method_48_code 47 = .ok (.aload_n 0, 1) := by decide +kernel
theorem d_MD_inverse_48 : decode prog_14_method_48_code 48 = .ok (.getfield 13, 3) := by decide +kernel
theorem d_MD_inverse_51 : decode prog_14_method_48_code 51 = .ok (.i2l, 1) := by decide +kernel
theorem d_MD_inverse_52 : decode prog_14_method_48_code 52 = .ok (.lrem, 1) := by decide +kernel
theorem d_MD_inverse_53 : decode prog_14_method_48_code 53 = .ok (.lstore 4, 2) := by decide +kernel
theorem d_MD_inverse_55 : decode prog_14_method_48_code 55 = .ok (.iload 6, 2) := by decide +kernel
theorem d_MD_inverse_57 : decode prog_14_method_48_code 57 = .ok (.iconst 1, 1) := by decide +kernel
theorem d_MD_inverse_58 : decode prog_14_method_48_code 58 = .ok (.ishr, 1) := by decide +kernel
theorem d_MD_inverse_59 : decode prog_14_method_48_code 59 = .ok (.istore 6, 2) := by decide +kernel
theorem d_MD_inverse_61 : decode prog_14_method_48_code 61 = .ok (.goto (-47), 3) := by decide +kernel
theorem d_MD_inverse_64 : decode prog_14_method_48_code 64 = .ok (.lload_n 2, 1) := by decide +kernel
theorem d_MD_inverse_65 : decode prog_14_method_48_code 65 = .ok (.aload_n 0, 1) := by decide +kernel
theorem d_MD_inverse_66 : decode prog_14_method_48_code 66 = .ok (.getfield 13, 3) := by decide +kernel
theorem d_MD_inverse_69 : decode prog_14_method_48_code 69 = .ok (.i2l, 1) := by decide +kernel
theorem d_MD_inverse_70 : decode prog_14_method_48_code 70 = .ok (.lrem, 1) := by decide +kernel
theorem d_MD_inverse_71 : decode prog_14_method_48_code 71 = .ok (.l2i, 1) := by decide +kernel
theorem d_MD_inverse_72 : decode prog_14_method_48_code 72 = .ok (.ireturn, 1) := by decide +kernel
def MD_inverse_41 (h0 : Nat) (w4 : Int64) (v6 : Int32) (t0 : Int64) (I : jM) (K : Int32 → Prop) (X14 : Int64 × Int64 × Int32 → Prop) : Prop :=
  (¬ (I h0 1).toInt64 = 0 ∧ (∀ w4_1 : Int64, w4_1 = ((w4 * w4) - (w4 * w4) / (I h0 1).toInt64 * (I h0 1).toInt64) → (∀ v6_2 : Int32, v6_2 = (v6 >>> ((1 : Int32) &&& 31)) → X14 (t0, w4_1, v6_2))))
set_option maxRecDepth 100000 in
set_option maxHeartbeats 4000000 in
theorem k_MD_inverse_41 {Z : jZ} {E : jE} (C : jC Z E prog_14_method_48_code 7 "OutOrderModel" 0 0) (hr : (jZh Z).sig.returnType = (some .int))  (h0 : Nat) (w4 : Int64) (v6 : Int32) (t0 : Int64) (I : jM) (g_h0 : jOB E 11 h0) {K : Int32 → Prop} {X14 : Int64 × Int64 × Int32 → Prop} (hX14 : ∀ s : Int64 × Int64 × Int32, X14 s → jJ Z E 7 (jQi Z E (fun r I2 => I = I2 ∧ K r)) 14 [(0, .ref (E.2.2.1 h0)), (2, .long s.1), (4, .long s.2.1), (6, .int s.2.2)] [] I) (h : MD_inverse_41 h0 w4 v6 t0 I K X14) : jJ Z E 7 (jQi Z E (fun r I2 => I = I2 ∧ K r)) 41 [(0, .ref (E.2.2.1 h0)), (4, .long w4), (6, .int v6)] [.long t0] I := by
  unfold MD_inverse_41 at h
  refine j_lstore_n C d_MD_inverse_41 rfl (by decide) (lv' := [(2, .long t0), (0, .ref (E.2.2.1 h0)), (4, .long w4), (6, .int v6)]) rfl ?_
  refine j_lload C d_MD_inverse_42 2 rfl ?_
  refine j_lload C d_MD_inverse_44 2 rfl ?_
  refine j_lmul C d_MD_inverse_46 ?_
  refine j_aload_n C d_MD_inverse_47 rfl 1 rfl ?_
  refine fg_MD_13 C g_h0 d_MD_inverse_48 ?_
  refine j_i2l C d_MD_inverse_51 ?_
  obtain ⟨hn, h⟩ := h
  refine j_lrem C d_MD_inverse_52 hn ?_
  refine j_topl (fun w4_1 ew4_1 => ?_)
  have h := h w4_1 ew4_1
  refine j_lstore C d_MD_inverse_53 (by decide) (lv' := [(4, .long w4_1), (2, .long t0), (0, .ref (E.2.2.1 h0)), (6, .int v6)]) rfl ?_
  refine j_iload C d_MD_inverse_55 3 rfl ?_
  refine j_iconst C d_MD_inverse_57 ic_1 ?_
  refine j_ishr C d_MD_inverse_58 ?_
  refine j_topi (fun v6_2 ev6_2 => ?_)
  have h := h v6_2 ev6_2
  refine j_istore C d_MD_inverse_59 (by decide) (lv' := [(6, .int v6_2), (4, .long w4_1), (2, .long t0), (0, .ref (E.2.2.1 h0))]) rfl ?_
  refine j_goto C d_MD_inverse_61 (tgt := 14) (by decide) ?_
  refine j_lv [3, 2, 1, 0] rfl ?_
  exact hX14 (t0, w4_1, v6_2) h
def MD_inverse_14b (h0 : Nat) (w2 : Int64) (w4 : Int64) (v6 : Int32) (I : jM) (K : Int32 → Prop) (X14 : Int64 × Int64 × Int32 → Prop) : Prop :=
  ((v6 ≤ 0 → (¬ (I h0 1).toInt64 = 0 ∧ K ((w2 - w2 / (I h0 1).toInt64 * (I h0 1).toInt64).toInt32))) ∧ (¬ v6 ≤ 0 → ((¬ (v6 &&& (1 : Int32)) = (1 : Int32) → MD_inverse_41 h0 w4 v6 w2 I K X14) ∧ ((v6 &&& (1 : Int32)) = (1 : Int32) → (¬ (I h0 1).toInt64 = 0 ∧ MD_inverse_41 h0 w4 v6 ((w2 * w4) - (w2 * w4) / (I h0 1).toInt64 * (I h0 1).toInt64) I K X14)))))
def MD_inverse_14 (h0 : Nat) (w2 : Int64) (w4 : Int64) (v6 : Int32) (I : jM) (K : Int32 → Prop) : Prop :=
  lp (fun (X14 : Int64 × Int64 × Int32 → Prop) (s : Int64 × Int64 × Int32) => MD_inverse_14b h0 s.1 s.2.1 s.2.2 I K X14) (w2, w4, v6)
set_option maxRecDepth 100000 in
set_option maxHeartbeats 4000000 in
theorem kb_MD_inverse_14 {Z : jZ} {E : jE} (C : jC Z E prog_14_method_48_code 7 "OutOrderModel" 0 0) (hr : (jZh Z).sig.returnType = (some .int))  (h0 : Nat) (w2 : Int64) (w4 : Int64) (v6 : Int32) (I : jM) (g_h0 : jOB E 11 h0) {K : Int32 → Prop} {X14 : Int64 × Int64 × Int32 → Prop} (hX14 : ∀ s : Int64 × Int64 × Int32, X14 s → jJ Z E 7 (jQi Z E (fun r I2 => I = I2 ∧ K r)) 14 [(0, .ref (E.2.2.1 h0)), (2, .long s.1), (4, .long s.2.1), (6, .int s.2.2)] [] I) (h : MD_inverse_14b h0 w2 w4 v6 I K X14) : jJ Z E 7 (jQi Z E (fun r I2 => I = I2 ∧ K r)) 14 [(0, .ref (E.2.2.1 h0)), (2, .long w2), (4, .long w4), (6, .int v6)] [] I := by
  unfold MD_inverse_14b at h
  refine j_iload C d_MD_inverse_14 3 rfl ?_
  refine j_if_le C d_MD_inverse_16 (tgt := 64) (by decide) (fun c16 => ?_) (fun c16 => ?_)
  · have h := h.1 c16
    refine j_lload_n C d_MD_inverse_64 rfl 1 rfl ?_
    refine j_aload_n C d_MD_inverse_65 rfl 0 rfl ?_
    refine fg_MD_13 C g_h0 d_MD_inverse_66 ?_
    refine j_i2l C d_MD_inverse_69 ?_
    obtain ⟨hn, h⟩ := h
    refine j_lrem C d_MD_inverse_70 hn ?_
    refine j_l2i C d_MD_inverse_71 ?_
    exact j_iret C hr d_MD_inverse_72 ⟨rfl, h⟩
  · have h := h.2 c16
    refine j_iload C d_MD_inverse_19 3 rfl ?_
    refine j_iconst C d_MD_inverse_21 ic_1 ?_
    refine j_iand C d_MD_inverse_22 ?_
    refine j_iconst C d_MD_inverse_23 ic_1 ?_
    refine j_icmp_ne C d_MD_inverse_24 (tgt := 40) (by decide) (fun c24 => ?_) (fun c24 => ?_)
    · have h := h.1 c24
      refine j_lload_n C d_MD_inverse_40 rfl 1 rfl ?_
      refine j_lv [0, 2, 3] rfl ?_
      exact k_MD_inverse_41 C hr h0 w4 v6 w2 I g_h0 hX14 h
    · have h := h.2 c24
      refine j_lload_n C d_MD_inverse_27 rfl 1 rfl ?_
      refine j_lload C d_MD_inverse_28 2 rfl ?_
      refine j_lmul C d_MD_inverse_30 ?_
      refine j_aload_n C d_MD_inverse_31 rfl 0 rfl ?_
      refine fg_MD_13 C g_h0 d_MD_inverse_32 ?_
      refine j_i2l C d_MD_inverse_35 ?_
      obtain ⟨hn, h⟩ := h
      refine j_lrem C d_MD_inverse_36 hn ?_
      refine j_goto C d_MD_inverse_37 (tgt := 41) (by decide) ?_
      refine j_lv [0, 2, 3] rfl ?_
      exact k_MD_inverse_41 C hr h0 w4 v6 ((w2 * w4) - (w2 * w4) / (I h0 1).toInt64 * (I h0 1).toInt64) I g_h0 hX14 h
theorem k_MD_inverse_14 {Z : jZ} {E : jE} (C : jC Z E prog_14_method_48_code 7 "OutOrderModel" 0 0) (hr : (jZh Z).sig.returnType = (some .int))  (h0 : Nat) (w2 : Int64) (w4 : Int64) (v6 : Int32) (I : jM) (g_h0 : jOB E 11 h0) {K : Int32 → Prop} (h : MD_inverse_14 h0 w2 w4 v6 I K) : jJ Z E 7 (jQi Z E (fun r I2 => I = I2 ∧ K r)) 14 [(0, .ref (E.2.2.1 h0)), (2, .long w2), (4, .long w4), (6, .int v6)] [] I := by
  unfold MD_inverse_14 at h
  exact h (fun s => jJ Z E 7 (jQi Z E (fun r I2 => I = I2 ∧ K r)) 14 [(0, .ref (E.2.2.1 h0)), (2, .long s.1), (4, .long s.2.1), (6, .int s.2.2)] [] I) (fun s hs => kb_MD_inverse_14 C hr h0 s.1 s.2.1 s.2.2 I g_h0 (fun s2 h2 => h2) hs)
/-- OutOrderModel.inverse(I)I -/
def MD_inverse (h0 : Nat) (v1 : Int32) (I : jM) (K : Int32 → Prop) : Prop :=
  (∀ v6_1 : Int32, v6_1 = ((I h0 1) - (2 : Int32)) → MD_inverse_14 h0 (1 : Int64) v1.toInt64 v6_1 I K)
set_option maxRecDepth 100000 in
set_option maxHeartbeats 4000000 in
theorem s_MD_inverse {l : Launch} {E : jE} (ok : jOK E)  {h0 : Nat} {v1 : Int32} (g_h0 : jOB E 11 h0) {I : jM} {K : Int32 → Prop} (h : MD_inverse h0 v1 I K) : jSi l E ⟨"OutOrderModel", "inverse", "(I)I"⟩ prog_14_method_48_code 7 (some .int) 0 0 [.ref (E.2.2.1 h0), .int v1] I (fun r I2 => I = I2 ∧ K r) := by
  refine jS_ofF (own := "OutOrderModel") (by decide +kernel) rfl ok (Nat.le_of_ble_eq_true rfl) (fun Z _ C hr => ?_)
  show jJ Z E 7 (jQi Z E (fun r I2 => I = I2 ∧ K r)) 0 [(0, .ref (E.2.2.1 h0)), (1, .int v1)] [] I
  unfold MD_inverse at h
  refine j_lconst (v := (1 : Int64)) C d_MD_inverse_0 (by decide) ?_
  refine j_lstore_n C d_MD_inverse_1 rfl (by decide) (lv' := [(2, .long (1 : Int64)), (0, .ref (E.2.2.1 h0)), (1, .int v1)]) rfl ?_
  refine j_iload_n C d_MD_inverse_2 rfl 2 rfl ?_
  refine j_i2l C d_MD_inverse_3 ?_
  refine j_lstore C d_MD_inverse_4 (by decide) (lv' := [(4, .long v1.toInt64), (2, .long (1 : Int64)), (0, .ref (E.2.2.1 h0)), (1, .int v1)]) rfl ?_
  refine j_aload_n C d_MD_inverse_6 rfl 2 rfl ?_
  refine fg_MD_13 C g_h0 d_MD_inverse_7 ?_
  refine j_iconst C d_MD_inverse_10 ic_2 ?_
  refine j_isub C d_MD_inverse_11 ?_
  refine j_topi (fun v6_1 ev6_1 => ?_)
  have h := h v6_1 ev6_1
  refine j_istore C d_MD_inverse_12 (by decide) (lv' := [(6, .int v6_1), (4, .long v1.toInt64), (2, .long (1 : Int64)), (0, .ref (E.2.2.1 h0)), (1, .int v1)]) rfl ?_
  refine j_lv [3, 2, 1, 0] rfl ?_
  exact k_MD_inverse_14 C hr h0 (1 : Int64) v1.toInt64 v6_1 I g_h0 h
theorem d_MD_solveAll_0 : decode prog_14_method_57_code 0 = .ok (.iconst 0, 1) := by decide +kernel
theorem d_MD_solveAll_1 : decode prog_14_method_57_code 1 = .ok (.istore_n 1, 1) := by decide +kernel
theorem d_MD_solveAll_2 : decode prog_14_method_57_code 2 = .ok (.iload_n 1, 1) := by decide +kernel
theorem d_MD_solveAll_3 : decode prog_14_method_57_code 3 = .ok (.aload_n 0, 1) := by decide +kernel
theorem d_MD_solveAll_4 : decode prog_14_method_57_code 4 = .ok (.getfield 7, 3) := by decide +kernel
theorem d_MD_solveAll_7 : decode prog_14_method_57_code 7 = .ok (.if_icmp .ge 85, 3) := by decide +kernel
theorem d_MD_solveAll_10 : decode prog_14_method_57_code 10 = .ok (.iconst 0, 1) := by decide +kernel
theorem d_MD_solveAll_11 : decode prog_14_method_57_code 11 = .ok (.istore_n 2, 1) := by decide +kernel
theorem d_MD_solveAll_12 : decode prog_14_method_57_code 12 = .ok (.iload_n 2, 1) := by decide +kernel
theorem d_MD_solveAll_13 : decode prog_14_method_57_code 13 = .ok (.iload_n 1, 1) := by decide +kernel
theorem d_MD_solveAll_14 : decode prog_14_method_57_code 14 = .ok (.if_icmp .ge 72, 3) := by decide +kernel
theorem d_MD_solveAll_17 : decode prog_14_method_57_code 17 = .ok (.aload_n 0, 1) := by decide +kernel
theorem d_MD_solveAll_18 : decode prog_14_method_57_code 18 = .ok (.getfield 69, 3) := by decide +kernel
theorem d_MD_solveAll_21 : decode prog_14_method_57_code 21 = .ok (.aload_n 0, 1) := by decide +kernel
theorem d_MD_solveAll_22 : decode prog_14_method_57_code 22 = .ok (.getfield 24, 3) := by decide +kernel
theorem d_MD_solveAll_25 : decode prog_14_method_57_code 25 = .ok (.iload_n 1, 1) := by decide +kernel
theorem d_MD_solveAll_26 : decode prog_14_method_57_code 26 = .ok (.iaload, 1) := by decide +kernel
theorem d_MD_solveAll_27 : decode prog_14_method_57_code 27 = .ok (.aload_n 0, 1) := by decide +kernel
theorem d_MD_solveAll_28 : decode prog_14_method_57_code 28 = .ok (.aload_n 0, 1) := by decide +kernel
theorem d_MD_solveAll_29 : decode prog_14_method_57_code 29 = .ok (.getfield 69, 3) := by decide +kernel
theorem d_MD_solveAll_32 : decode prog_14_method_57_code 32 = .ok (.aload_n 0, 1) := by decide +kernel
theorem d_MD_solveAll_33 : decode prog_14_method_57_code 33 = .ok (.getfield 24, 3) := by decide +kernel
theorem d_MD_solveAll_36 : decode prog_14_method_57_code 36 = .ok (.iload_n 1, 1) := by decide +kernel
theorem d_MD_solveAll_37 : decode prog_14_method_57_code 37 = .ok (.iaload, 1) := by decide +kernel
theorem d_MD_solveAll_38 : decode prog_14_method_57_code 38 = .ok (.iaload, 1) := by decide +kernel
theorem d_MD_solveAll_39 : decode prog_14_method_57_code 39 = .ok (.i2l, 1) := by decide +kernel
theorem d_MD_solveAll_40 : decode prog_14_method_57_code 40 = .ok (.aload_n 0, 1) := by decide +kernel
theorem d_MD_solveAll_41 : decode prog_14_method_57_code 41 = .ok (.getfield 66, 3) := by decide +kernel
theorem d_MD_solveAll_44 : decode prog_14_method_57_code 44 = .ok (.bipush 24, 2) := by decide +kernel
theorem d_MD_solveAll_46 : decode prog_14_method_57_code 46 = .ok (.aload_n 0, 1) := by decide +kernel
theorem d_MD_solveAll_47 : decode prog_14_method_57_code 47 = .ok (.getfield 24, 3) := by decide +kernel
theorem d_MD_solveAll_50 : decode prog_14_method_57_code 50 = .ok (.iload_n 1, 1) := by decide +kernel
theorem d_MD_solveAll_51 : decode prog_14_method_57_code 51 = .ok (.iaload, 1) := by decide +kernel
theorem d_MD_solveAll_52 : decode prog_14_method_57_code 52 = .ok (.imul, 1) := by decide +kernel
theorem d_MD_solveAll_53 : decode prog_14_method_57_code 53 = .ok (.aload_n 0, 1) := by decide +kernel
theorem d_MD_solveAll_54 : decode prog_14_method_57_code 54 = .ok (.getfield 24, 3) := by decide +kernel
theorem d_MD_solveAll_57 : decode prog_14_method_57_code 57 = .ok (.iload_n 2, 1) := by decide +kernel
theorem d_MD_solveAll_58 : decode prog_14_method_57_code 58 = .ok (.iaload, 1) := by decide +kernel
theorem d_MD_solveAll_59 : decode prog_14_method_57_code 59 = .ok (.iadd, 1) := by decide +kernel
theorem d_MD_solveAll_60 : decode prog_14_method_57_code 60 = .ok (.iaload, 1) := by decide +kernel
theorem d_MD_solveAll_61 : decode prog_14_method_57_code 61 = .ok (.i2l, 1) := by decide +kernel
theorem d_MD_solveAll_62 : decode prog_14_method_57_code 62 = .ok (.aload_n 0, 1) := by decide +kernel
theorem d_MD_solveAll_63 : decode prog_14_method_57_code 63 = .ok (.getfield 69, 3) := by decide +kernel
theorem d_MD_solveAll_66 : decode prog_14_method_57_code 66 = .ok (.aload_n 0, 1) := by decide +kernel
theorem d_MD_solveAll_67 : decode prog_14_method_57_code 67 = .ok (.getfield 24, 3) := by decide +kernel
theorem d_MD_solveAll_70 : decode prog_14_method_57_code 70 = .ok (.iload_n 2, 1) := by decide +kernel
theorem d_MD_solveAll_71 : decode prog_14_method_57_code 71 = .ok (.iaload, 1) := by decide +kernel
theorem d_MD_solveAll_72 : decode prog_14_method_57_code 72 = .ok (.iaload, 1) := by decide +kernel
theorem d_MD_solveAll_73 : decode prog_14_method_57_code 73 = .ok (.i2l, 1) := by decide +kernel
theorem d_MD_solveAll_74 : decode prog_14_method_57_code 74 = .ok (.lmul, 1) := by decide +kernel
theorem d_MD_solveAll_75 : decode prog_14_method_57_code 75 = .ok (.lsub, 1) := by decide +kernel
theorem d_MD_solveAll_76 : decode prog_14_method_57_code 76 = .ok (.invokevirtual 94, 3) := by decide +kernel
theorem d_MD_solveAll_79 : decode prog_14_method_57_code 79 = .ok (.iastore, 1) := by decide +kernel
theorem d_MD_solveAll_80 : decode prog_14_method_57_code 80 = .ok (.iinc 2 1, 3) := by decide +kernel
theorem d_MD_solveAll_83 : decode prog_14_method_57_code 83 = .ok (.goto (-71), 3) := by decide +kernel
theorem d_MD_solveAll_86 : decode prog_14_method_57_code 86 = .ok (.iinc 1 1, 3) := by decide +kernel
theorem d_MD_solveAll_89 : decode prog_14_method_57_code 89 = .ok (.goto (-87), 3) := by decide +kernel
theorem d_MD_solveAll_92 : decode prog_14_method_57_code 92 = .ok (.iconst 0, 1) := by decide +kernel
theorem d_MD_solveAll_93 : decode prog_14_method_57_code 93 = .ok (.istore_n 1, 1) := by decide +kernel
theorem d_MD_solveAll_94 : decode prog_14_method_57_code 94 = .ok (.iload_n 1, 1) := by decide +kernel
theorem d_MD_solveAll_95 : decode prog_14_method_57_code 95 = .ok (.aload_n 0, 1) := by decide +kernel
theorem d_MD_solveAll_96 : decode prog_14_method_57_code 96 = .ok (.getfield 7, 3) := by decide +kernel
theorem d_MD_solveAll_99 : decode prog_14_method_57_code 99 = .ok (.if_icmp .ge 41, 3) := by decide +kernel
theorem d_MD_solveAll_102 : decode prog_14_method_57_code 102 = .ok (.aload_n 0, 1) := by decide +kernel
theorem d_MD_solveAll_103 : decode prog_14_method_57_code 103 = .ok (.getfield 69, 3) := by decide +kernel
theorem d_MD_solveAll_106 : decode prog_14_method_57_code 106 = .ok (.iload_n 1, 1) := by decide +kernel
theorem d_MD_solveAll_107 : decode prog_14_method_57_code 107 = .ok (.aload_n 0, 1) := by decide +kernel
theorem d_MD_solveAll_108 : decode prog_14_method_57_code 108 = .ok (.getfield 69, 3) := by decide +kernel
theorem d_MD_solveAll_111 : decode prog_14_method_57_code 111 = .ok (.iload_n 1, 1) := by decide +kernel
theorem d_MD_solveAll_112 : decode prog_14_method_57_code 112 = .ok (.iaload, 1) := by decide +kernel
theorem d_MD_solveAll_113 : decode prog_14_method_57_code 113 = .ok (.i2l, 1) := by decide +kernel
theorem d_MD_solveAll_114 : decode prog_14_method_57_code 114 = .ok (.aload_n 0, 1) := by decide +kernel
theorem d_MD_solveAll_115 : decode prog_14_method_57_code 115 = .ok (.aload_n 0, 1) := by decide +kernel
theorem d_MD_solveAll_116 : decode prog_14_method_57_code 116 = .ok (.getfield 63, 3) := by decide +kernel
theorem d_MD_solveAll_119 : decode prog_14_method_57_code 119 = .ok (.iload_n 1, 1) := by decide +kernel
theorem d_MD_solveAll_120 : decode prog_14_method_57_code 120 = .ok (.iaload, 1) := by decide +kernel
theorem d_MD_solveAll_121 : decode prog_14_method_57_code 121 = .ok (.invokevirtual 182, 3) := by decide +kernel
theorem d_MD_solveAll_124 : decode prog_14_method_57_code 124 = .ok (.i2l, 1) := by decide +kernel
theorem d_MD_solveAll_125 : decode prog_14_method_57_code 125 = .ok (.lmul, 1) := by decide +kernel
theorem d_MD_solveAll_126 : decode prog_14_method_57_code 126 = .ok (.aload_n 0, 1) := by decide +kernel
theorem d_MD_solveAll_127 : decode prog_14_method_57_code 127 = .ok (.getfield 13, 3) := by decide +kernel
theorem d_MD_solveAll_130 : decode prog_14_method_57_code 130 = .ok (.i2l, 1) := by decide +kernel
theorem d_MD_solveAll_131 : decode prog_14_method_57_code 131 = .ok (.lrem, 1) := by decide +kernel
theorem d_MD_solveAll_132 : decode prog_14_method_57_code 132 = .ok (.l2i, 1) := by decide +kernel
theorem d_MD_solveAll_133 : decode prog_14_method_57_code 133 = .ok (.iastore, 1) := by decide +kernel
theorem d_MD_solveAll_134 : decode prog_14_method_57_code 134 = .ok (.iinc 1 1, 3) := by decide +kernel
theorem d_MD_solveAll_137 : decode prog_14_method_57_code 137 = .ok (.goto (-43), 3) := by decide +kernel
theorem d_MD_solveAll_140 : decode prog_14_method_57_code 140 = .ok (.aload_n 0, 1) := by decide +kernel
theorem d_MD_solveAll_141 : decode prog_14_method_57_code 141 = .ok (.getfield 7, 3) := by decide +kernel
theorem d_MD_solveAll_144 : decode prog_14_method_57_code 144 = .ok (.iconst 1, 1) := by decide +kernel
theorem d_MD_solveAll_145 : decode prog_14_method_57_code 145 = .ok (.isub, 1) := by decide +kernel
theorem d_MD_solveAll_146 : decode prog_14_method_57_code 146 = .ok (.istore_n 1, 1) := by decide +kernel
theorem d_MD_solveAll_147 : decode prog_14_method_57_code 147 = .ok (.iload_n 1, 1) := by decide +kernel
theorem d_MD_solveAll_148 : decode prog_14_method_57_code 148 = .ok (.ifCond .lt 90, 3) := by decide +kernel
theorem d_MD_solveAll_151 : decode prog_14_method_57_code 151 = .ok (.iload_n 1, 1) := by decide +kernel
theorem d_MD_solveAll_152 : decode prog_14_method_57_code 152 = .ok (.iconst 1, 1) := by decide +kernel
theorem d_MD_solveAll_153 : decode prog_14_method_57_code 153 = .ok (.iadd, 1) := by decide +kernel
theorem d_MD_solveAll_154 : decode prog_14_method_57_code 154 = .ok (.istore_n 2, 1) := by decide +kernel
theorem d_MD_solveAll_155 : decode prog_14_method_57_code 155 = .ok (.iload_n 2, 1) := by decide +kernel
theorem d_MD_solveAll_156 : decode prog_14_method_57_code 156 = .ok (.aload_n 0, 1) := by decide +kernel
theorem d_MD_solveAll_157 : decode prog_14_method_57_code 157 = .ok (.getfield 7, 3) := by decide +kernel
theorem d_MD_solveAll_160 : decode prog_14_method_57_code 160 = .ok (.if_icmp .ge 72, 3) := by decide +kernel
theorem d_MD_solveAll_163 : decode prog_14_method_57_code 163 = .ok (.aload_n 0, 1) := by decide +kernel
theorem d_MD_solveAll_164 : decode prog_14_method_57_code 164 = .ok (.getfield 69, 3) := by decide +kernel
theorem d_MD_solveAll_167 : decode prog_14_method_57_code 167 = .ok (.aload_n 0, 1) := by decide +kernel
theorem d_MD_solveAll_168 : decode prog_14_method_57_code 168 = .ok (.getfield 24, 3) := by decide +kernel
theorem d_MD_solveAll_171 : decode prog_14_method_57_code 171 = .ok (.iload_n 1, 1) := by decide +kernel
theorem d_MD_solveAll_172 : decode prog_14_method_57_code 172 = .ok (.iaload, 1) := by decide +kernel
theorem d_MD_solveAll_173 : decode prog_14_method_57_code 173 = .ok (.aload_n 0, 1) := by decide +kernel
theorem d_MD_solveAll_174 : decode prog_14_method_57_code 174 = .ok (.aload_n 0, 1) := by decide +kernel
theorem d_MD_solveAll_175 : decode prog_14_method_57_code 175 = .ok (.getfield 69, 3) := by decide +kernel
theorem d_MD_solveAll_178 : decode prog_14_method_57_code 178 = .ok (.aload_n 0, 1) := by decide +kernel
theorem d_MD_solveAll_179 : decode prog_14_method_57_code 179 = .ok (.getfield 24, 3) := by decide +kernel
theorem d_MD_solveAll_182 : decode prog_14_method_57_code 182 = .ok (.iload_n 1, 1) := by decide +kernel
theorem d_MD_solveAll_183 : decode prog_14_method_57_code 183 = .ok (.iaload, 1) := by decide +kernel
theorem d_MD_solveAll_184 : decode prog_14_method_57_code 184 = .ok (.iaload, 1) := by decide +kernel
theorem d_MD_solveAll_185 : decode prog_14_method_57_code 185 = .ok (.i2l, 1) := by decide +kernel
theorem d_MD_solveAll_186 : decode prog_14_method_57_code 186 = .ok (.aload_n 0, 1) := by decide +kernel
theorem d_MD_solveAll_187 : decode prog_14_method_57_code 187 = .ok (.getfield 66, 3) := by decide +kernel
theorem d_MD_solveAll_190 : decode prog_14_method_57_code 190 = .ok (.bipush 24, 2) := by decide +kernel
theorem d_MD_solveAll_192 : decode prog_14_method_57_code 192 = .ok (.aload_n 0, 1) := by decide +kernel
theorem d_MD_solveAll_193 : decode prog_14_method_57_code 193 = .ok (.getfield 24, 3) := by decide +kernel
theorem d_MD_solveAll_196 : decode prog_14_method_57_code 196 = .ok (.iload_n 2, 1) := by decide +kernel
theorem d_MD_solveAll_197 : decode prog_14_method_57_code 197 = .ok (.iaload, 1) := by decide +kernel
theorem d_MD_solveAll_198 : decode prog_14_method_57_code 198 = .ok (.imul, 1) := by decide +kernel
theorem d_MD_solveAll_199 : decode prog_14_method_57_code 199 = .ok (.aload_n 0, 1) := by decide +kernel
theorem d_MD_solveAll_200 : decode prog_14_method_57_code 200 = .ok (.getfield 24, 3) := by decide +kernel
theorem d_MD_solveAll_203 : decode prog_14_method_57_code 203 = .ok (.iload_n 1, 1) := by decide +kernel
theorem d_MD_solveAll_204 : decode prog_14_method_57_code 204 = .ok (.iaload, 1) := by decide +kernel
theorem d_MD_solveAll_205 : decode prog_14_method_57_code 205 = .ok (.iadd, 1) := by decide +kernel
theorem d_MD_solveAll_206 : decode prog_14_method_57_code 206 = .ok (.iaload, 1) := by decide +kernel
theorem d_MD_solveAll_207 : decode prog_14_method_57_code 207 = .ok (.i2l, 1) := by decide +kernel
theorem d_MD_solveAll_208 : decode prog_14_method_57_code 208 = .ok (.aload_n 0, 1) := by decide +kernel
theorem d_MD_solveAll_209 : decode prog_14_method_57_code 209 = .ok (.getfield 69, 3) := by decide +kernel
theorem d_MD_solveAll_212 : decode prog_14_method_57_code 212 = .ok (.aload_n 0, 1) := by decide +kernel
theorem d_MD_solveAll_213 : decode prog_14_method_57_code 213 = .ok (.getfield 24, 3) := by decide +kernel
theorem d_MD_solveAll_216 : decode prog_14_method_57_code 216 = .ok (.iload_n 2, 1) := by decide +kernel
theorem d_MD_solveAll_217 : decode prog_14_method_57_code 217 = .ok (.iaload, 1) := by decide +kernel
theorem d_MD_solveAll_218 : decode prog_14_method_57_code 218 = .ok (.iaload, 1) := by decide +kernel
theorem d_MD_solveAll_219 : decode prog_14_method_57_code 219 = .ok (.i2l, 1) := by decide +kernel
theorem d_MD_solveAll_220 : decode prog_14_method_57_code 220 = .ok (.lmul, 1) := by decide +kernel
theorem d_MD_solveAll_221 : decode prog_14_method_57_code 221 = .ok (.lsub, 1) := by decide +kernel
theorem d_MD_solveAll_222 : decode prog_14_method_57_code 222 = .ok (.invokevirtual 94, 3) := by decide +kernel
theorem d_MD_solveAll_225 : decode prog_14_method_57_code 225 = .ok (.iastore, 1) := by decide +kernel
theorem d_MD_solveAll_226 : decode prog_14_method_57_code 226 = .ok (.iinc 2 1, 3) := by decide +kernel
theorem d_MD_solveAll_229 : decode prog_14_method_57_code 229 = .ok (.goto (-74), 3) := by decide +kernel
theorem d_MD_solveAll_232 : decode prog_14_method_57_code 232 = .ok (.iinc 1 (-1), 3) := by decide +kernel
theorem d_MD_solveAll_235 : decode prog_14_method_57_code 235 = .ok (.goto (-88), 3) := by decide +kernel
theorem d_MD_solveAll_238 : decode prog_14_method_57_code 238 = .ok (.return_, 1) := by decide +kernel
def MD_solveAll_155b (h0 : Nat) (v1 : Int32) (v2 : Int32) (I : jM) (K : jM → Prop) (X147 : Int32 × jM → Prop) (X155 : Int32 × jM → Prop) : Prop :=
  (((I h0 0) ≤ v2 → X147 ((v1 + (-1)), I)) ∧ (¬ (I h0 0) ≤ v2 → (vp_in v1 24 ∧ (vp_in v1 24 ∧ (vp_in (I (jr h0 4) v1.toNatClampNeg) 24 ∧ (vp_in v2 24 ∧ (vp_in v1 24 ∧ (vp_in (((24 : Int32) * (I (jr h0 4) v2.toNatClampNeg)) + (I (jr h0 4) v1.toNatClampNeg)) 576 ∧ (vp_in v2 24 ∧ (vp_in (I (jr h0 4) v2.toNatClampNeg) 24 ∧ MD_modulo h0 ((I (jr h0 22) (I (jr h0 4) v1.toNatClampNeg).toNatClampNeg).toInt64 - ((I (jr h0 21) (((24 : Int32) * (I (jr h0 4) v2.toNatClampNeg)) + (I (jr h0 4) v1.toNatClampNeg)).toNatClampNeg).toInt64 * (I (jr h0 22) (I (jr h0 4) v2.toNatClampNeg).toNatClampNeg).toInt64)) I (fun r_1 => (vp_in (I (jr h0 4) v1.toNatClampNeg) 24 ∧ (∀ I_2 : jM, I_2 = jwr I (jr h0 22) (I (jr h0 4) v1.toNatClampNeg).toNatClampNeg r_1 → X155 ((v2 + 1), I_2))))))))))))))
def MD_solveAll_155 (h0 : Nat) (v1 : Int32) (v2 : Int32) (I : jM) (K : jM → Prop) (X147 : Int32 × jM → Prop) : Prop :=
  lp (fun (X155 : Int32 × jM → Prop) (s : Int32 × jM) => MD_solveAll_155b h0 v1 s.1 s.2 K X147 X155) (v2, I)
set_option maxRecDepth 100000 in
set_option maxHeartbeats 4000000 in
theorem kb_MD_solveAll_155 {Z : jZ} {E : jE} (C : jC Z E prog_14_method_57_code 3 "OutOrderModel" 1 26) (hr : (jZh Z).sig.returnType = none) (hE : E.2.2.2 = jLM)  (h0 : Nat) (v1 : Int32) (v2 : Int32) (I : jM) (g_h0 : jOB E 11 h0) {K : jM → Prop} {X147 : Int32 × jM → Prop} (hX147 : ∀ s : Int32 × jM, X147 s → jJ Z E 3 (jQv Z E K) 147 [(0, .ref (E.2.2.1 h0)), (1, .int s.1)] [] s.2) {X155 : Int32 × jM → Prop} (hX155 : ∀ s : Int32 × jM, X155 s → jJ Z E 3 (jQv Z E K) 155 [(0, .ref (E.2.2.1 h0)), (1, .int v1), (2, .int s.1)] [] s.2) (h : MD_solveAll_155b h0 v1 v2 I K X147 X155) : jJ Z E 3 (jQv Z E K) 155 [(0, .ref (E.2.2.1 h0)), (1, .int v1), (2, .int v2)] [] I := by
  unfold MD_solveAll_155b at h
  refine j_iload_n C d_MD_solveAll_155 rfl 2 rfl ?_
  refine j_aload_n C d_MD_solveAll_156 rfl 0 rfl ?_
  refine fg_MD_7 C g_h0 d_MD_solveAll_157 ?_
  refine j_icmp_ge C d_MD_solveAll_160 (tgt := 232) (by decide) (fun c160 => ?_) (fun c160 => ?_)
  · have h := h.1 c160
    refine j_iinc C d_MD_solveAll_232 1 rfl (v := (v1 + (-1))) rfl (by decide) (lv' := [(1, .int (v1 + (-1))), (0, .ref (E.2.2.1 h0)), (2, .int v2)]) rfl ?_
    refine j_goto C d_MD_solveAll_235 (tgt := 147) (by decide) ?_
    refine j_lv [1, 0] rfl ?_
    exact hX147 ((v1 + (-1)), I) h
  · have h := h.2 c160
    refine j_aload_n C d_MD_solveAll_163 rfl 0 rfl ?_
    refine fg_MD_69 C g_h0 d_MD_solveAll_164 ?_
    refine j_aload_n C d_MD_solveAll_167 rfl 0 rfl ?_
    refine fg_MD_24 C g_h0 d_MD_solveAll_168 ?_
    refine j_iload_n C d_MD_solveAll_171 rfl 1 rfl ?_
    obtain ⟨hi, h⟩ := h
    refine j_iaload C (sh_MD_4 hE g_h0) hi d_MD_solveAll_172 ?_
    refine j_aload_n C d_MD_solveAll_173 rfl 0 rfl ?_
    refine j_aload_n C d_MD_solveAll_174 rfl 0 rfl ?_
    refine fg_MD_69 C g_h0 d_MD_solveAll_175 ?_
    refine j_aload_n C d_MD_solveAll_178 rfl 0 rfl ?_
    refine fg_MD_24 C g_h0 d_MD_solveAll_179 ?_
    refine j_iload_n C d_MD_solveAll_182 rfl 1 rfl ?_
    obtain ⟨hi, h⟩ := h
    refine j_iaload C (sh_MD_4 hE g_h0) hi d_MD_solveAll_183 ?_
    obtain ⟨hi, h⟩ := h
    refine j_iaload C (sh_MD_22 hE g_h0) hi d_MD_solveAll_184 ?_
    refine j_i2l C d_MD_solveAll_185 ?_
    refine j_aload_n C d_MD_solveAll_186 rfl 0 rfl ?_
    refine fg_MD_66 C g_h0 d_MD_solveAll_187 ?_
    refine j_bipush C d_MD_solveAll_190 ib_24 ?_
    refine j_aload_n C d_MD_solveAll_192 rfl 0 rfl ?_
    refine fg_MD_24 C g_h0 d_MD_solveAll_193 ?_
    refine j_iload_n C d_MD_solveAll_196 rfl 2 rfl ?_
    obtain ⟨hi, h⟩ := h
    refine j_iaload C (sh_MD_4 hE g_h0) hi d_MD_solveAll_197 ?_
    refine j_imul C d_MD_solveAll_198 ?_
    refine j_aload_n C d_MD_solveAll_199 rfl 0 rfl ?_
    refine fg_MD_24 C g_h0 d_MD_solveAll_200 ?_
    refine j_iload_n C d_MD_solveAll_203 rfl 1 rfl ?_
    obtain ⟨hi, h⟩ := h
    refine j_iaload C (sh_MD_4 hE g_h0) hi d_MD_solveAll_204 ?_
    refine j_iadd C d_MD_solveAll_205 ?_
    obtain ⟨hi, h⟩ := h
    refine j_iaload C (sh_MD_21 hE g_h0) hi d_MD_solveAll_206 ?_
    refine j_i2l C d_MD_solveAll_207 ?_
    refine j_aload_n C d_MD_solveAll_208 rfl 0 rfl ?_
    refine fg_MD_69 C g_h0 d_MD_solveAll_209 ?_
    refine j_aload_n C d_MD_solveAll_212 rfl 0 rfl ?_
    refine fg_MD_24 C g_h0 d_MD_solveAll_213 ?_
    refine j_iload_n C d_MD_solveAll_216 rfl 2 rfl ?_
    obtain ⟨hi, h⟩ := h
    refine j_iaload C (sh_MD_4 hE g_h0) hi d_MD_solveAll_217 ?_
    obtain ⟨hi, h⟩ := h
    refine j_iaload C (sh_MD_22 hE g_h0) hi d_MD_solveAll_218 ?_
    refine j_i2l C d_MD_solveAll_219 ?_
    refine j_lmul C d_MD_solveAll_220 ?_
    refine j_lsub C d_MD_solveAll_221 ?_
    refine j_callVi (As := [.long ((I (jr h0 22) (I (jr h0 4) v1.toNatClampNeg).toNatClampNeg).toInt64 - ((I (jr h0 21) (((24 : Int32) * (I (jr h0 4) v2.toNatClampNeg)) + (I (jr h0 4) v1.toNatClampNeg)).toNatClampNeg).toInt64 * (I (jr h0 22) (I (jr h0 4) v2.toNatClampNeg).toNatClampNeg).toInt64))]) C jcl_MD cw_MD_94 w_836 ws_27 g_h0 rfl rfl (by decide) (by decide) (Nat.le_of_ble_eq_true rfl) d_MD_solveAll_222 (s_MD_modulo C.ok g_h0 h) (fun r_1 I2 h => ?_)
    obtain ⟨rfl, h⟩ := h
    obtain ⟨hi, h⟩ := h
    refine j_iastore C (sh_MD_22 hE g_h0) hi d_MD_solveAll_225 ?_
    have h := h _ rfl
    generalize eI_2 : (jwr I (jr h0 22) (I (jr h0 4) v1.toNatClampNeg).toNatClampNeg r_1 : jM) = I_2 at h ⊢
    refine j_iinc C d_MD_solveAll_226 2 rfl (v := (v2 + 1)) rfl (by decide) (lv' := [(2, .int (v2 + 1)), (0, .ref (E.2.2.1 h0)), (1, .int v1)]) rfl ?_
    refine j_goto C d_MD_solveAll_229 (tgt := 155) (by decide) ?_
    refine j_lv [1, 2, 0] rfl ?_
    exact hX155 ((v2 + 1), I_2) h
theorem k_MD_solveAll_155 {Z : jZ} {E : jE} (C : jC Z E prog_14_method_57_code 3 "OutOrderModel" 1 26) (hr : (jZh Z).sig.returnType = none) (hE : E.2.2.2 = jLM)  (h0 : Nat) (v1 : Int32) (v2 : Int32) (I : jM) (g_h0 : jOB E 11 h0) {K : jM → Prop} {X147 : Int32 × jM → Prop} (hX147 : ∀ s : Int32 × jM, X147 s → jJ Z E 3 (jQv Z E K) 147 [(0, .ref (E.2.2.1 h0)), (1, .int s.1)] [] s.2) (h : MD_solveAll_155 h0 v1 v2 I K X147) : jJ Z E 3 (jQv Z E K) 155 [(0, .ref (E.2.2.1 h0)), (1, .int v1), (2, .int v2)] [] I := by
  unfold MD_solveAll_155 at h
  exact h (fun s => jJ Z E 3 (jQv Z E K) 155 [(0, .ref (E.2.2.1 h0)), (1, .int v1), (2, .int s.1)] [] s.2) (fun s hs => kb_MD_solveAll_155 C hr hE h0 v1 s.1 s.2 g_h0 hX147 (fun s2 h2 => h2) hs)
def MD_solveAll_147b (h0 : Nat) (v1 : Int32) (I : jM) (K : jM → Prop) (X147 : Int32 × jM → Prop) : Prop :=
  ((v1 < 0 → K I) ∧ (¬ v1 < 0 → (∀ v2_1 : Int32, v2_1 = (v1 + (1 : Int32)) → MD_solveAll_155 h0 v1 v2_1 I K X147)))
def MD_solveAll_147 (h0 : Nat) (v1 : Int32) (I : jM) (K : jM → Prop) : Prop :=
  lp (fun (X147 : Int32 × jM → Prop) (s : Int32 × jM) => MD_solveAll_147b h0 s.1 s.2 K X147) (v1, I)
set_option maxRecDepth 100000 in
set_option maxHeartbeats 4000000 in
theorem kb_MD_solveAll_147 {Z : jZ} {E : jE} (C : jC Z E prog_14_method_57_code 3 "OutOrderModel" 1 26) (hr : (jZh Z).sig.returnType = none) (hE : E.2.2.2 = jLM)  (h0 : Nat) (v1 : Int32) (I : jM) (g_h0 : jOB E 11 h0) {K : jM → Prop} {X147 : Int32 × jM → Prop} (hX147 : ∀ s : Int32 × jM, X147 s → jJ Z E 3 (jQv Z E K) 147 [(0, .ref (E.2.2.1 h0)), (1, .int s.1)] [] s.2) (h : MD_solveAll_147b h0 v1 I K X147) : jJ Z E 3 (jQv Z E K) 147 [(0, .ref (E.2.2.1 h0)), (1, .int v1)] [] I := by
  unfold MD_solveAll_147b at h
  refine j_iload_n C d_MD_solveAll_147 rfl 1 rfl ?_
  refine j_if_lt C d_MD_solveAll_148 (tgt := 238) (by decide) (fun c148 => ?_) (fun c148 => ?_)
  · have h := h.1 c148
    exact j_vret C hr d_MD_solveAll_238 h
  · have h := h.2 c148
    refine j_iload_n C d_MD_solveAll_151 rfl 1 rfl ?_
    refine j_iconst C d_MD_solveAll_152 ic_1 ?_
    refine j_iadd C d_MD_solveAll_153 ?_
    refine j_topi (fun v2_1 ev2_1 => ?_)
    have h := h v2_1 ev2_1
    refine j_istore_n C d_MD_solveAll_154 rfl (by decide) (lv' := [(2, .int v2_1), (0, .ref (E.2.2.1 h0)), (1, .int v1)]) rfl ?_
    refine j_lv [1, 2, 0] rfl ?_
    exact k_MD_solveAll_155 C hr hE h0 v1 v2_1 I g_h0 hX147 h
theorem k_MD_solveAll_147 {Z : jZ} {E : jE} (C : jC Z E prog_14_method_57_code 3 "OutOrderModel" 1 26) (hr : (jZh Z).sig.returnType = none) (hE : E.2.2.2 = jLM)  (h0 : Nat) (v1 : Int32) (I : jM) (g_h0 : jOB E 11 h0) {K : jM → Prop} (h : MD_solveAll_147 h0 v1 I K) : jJ Z E 3 (jQv Z E K) 147 [(0, .ref (E.2.2.1 h0)), (1, .int v1)] [] I := by
  unfold MD_solveAll_147 at h
  exact h (fun s => jJ Z E 3 (jQv Z E K) 147 [(0, .ref (E.2.2.1 h0)), (1, .int s.1)] [] s.2) (fun s hs => kb_MD_solveAll_147 C hr hE h0 s.1 s.2 g_h0 (fun s2 h2 => h2) hs)
def MD_solveAll_94b (h0 : Nat) (v1 : Int32) (I : jM) (K : jM → Prop) (X94 : Int32 × jM → Prop) : Prop :=
  (((I h0 0) ≤ v1 → (∀ v1_1 : Int32, v1_1 = ((I h0 0) - (1 : Int32)) → MD_solveAll_147 h0 v1_1 I K)) ∧ (¬ (I h0 0) ≤ v1 → (vp_in v1 24 ∧ (vp_in v1 24 ∧ MD_inverse h0 (I (jr h0 20) v1.toNatClampNeg) I (fun r_2 => (¬ (I h0 1).toInt64 = 0 ∧ (vp_in v1 24 ∧ (∀ I_3 : jM, I_3 = jwr I (jr h0 22) v1.toNatClampNeg ((((I (jr h0 22) v1.toNatClampNeg).toInt64 * r_2.toInt64) - ((I (jr h0 22) v1.toNatClampNeg).toInt64 * r_2.toInt64) / (I h0 1).toInt64 * (I h0 1).toInt64).toInt32) → X94 ((v1 + 1), I_3)))))))))
def MD_solveAll_94 (h0 : Nat) (v1 : Int32) (I : jM) (K : jM → Prop) : Prop :=
  lp (fun (X94 : Int32 × jM → Prop) (s : Int32 × jM) => MD_solveAll_94b h0 s.1 s.2 K X94) (v1, I)
set_option maxRecDepth 100000 in
set_option maxHeartbeats 4000000 in
theorem kb_MD_solveAll_94 {Z : jZ} {E : jE} (C : jC Z E prog_14_method_57_code 3 "OutOrderModel" 1 26) (hr : (jZh Z).sig.returnType = none) (hE : E.2.2.2 = jLM)  (h0 : Nat) (v1 : Int32) (I : jM) (g_h0 : jOB E 11 h0) {K : jM → Prop} {X94 : Int32 × jM → Prop} (hX94 : ∀ s : Int32 × jM, X94 s → jJ Z E 3 (jQv Z E K) 94 [(0, .ref (E.2.2.1 h0)), (1, .int s.1)] [] s.2) (h : MD_solveAll_94b h0 v1 I K X94) : jJ Z E 3 (jQv Z E K) 94 [(0, .ref (E.2.2.1 h0)), (1, .int v1)] [] I := by
  unfold MD_solveAll_94b at h
  refine j_iload_n C d_MD_solveAll_94 rfl 1 rfl ?_
  refine j_aload_n C d_MD_solveAll_95 rfl 0 rfl ?_
  refine fg_MD_7 C g_h0 d_MD_solveAll_96 ?_
  refine j_icmp_ge C d_MD_solveAll_99 (tgt := 140) (by decide) (fun c99 => ?_) (fun c99 => ?_)
  · have h := h.1 c99
    refine j_aload_n C d_MD_solveAll_140 rfl 0 rfl ?_
    refine fg_MD_7 C g_h0 d_MD_solveAll_141 ?_
    refine j_iconst C d_MD_solveAll_144 ic_1 ?_
    refine j_isub C d_MD_solveAll_145 ?_
    refine j_topi (fun v1_1 ev1_1 => ?_)
    have h := h v1_1 ev1_1
    refine j_istore_n C d_MD_solveAll_146 rfl (by decide) (lv' := [(1, .int v1_1), (0, .ref (E.2.2.1 h0))]) rfl ?_
    refine j_lv [1, 0] rfl ?_
    exact k_MD_solveAll_147 C hr hE h0 v1_1 I g_h0 h
  · have h := h.2 c99
    refine j_aload_n C d_MD_solveAll_102 rfl 0 rfl ?_
    refine fg_MD_69 C g_h0 d_MD_solveAll_103 ?_
    refine j_iload_n C d_MD_solveAll_106 rfl 1 rfl ?_
    refine j_aload_n C d_MD_solveAll_107 rfl 0 rfl ?_
    refine fg_MD_69 C g_h0 d_MD_solveAll_108 ?_
    refine j_iload_n C d_MD_solveAll_111 rfl 1 rfl ?_
    obtain ⟨hi, h⟩ := h
    refine j_iaload C (sh_MD_22 hE g_h0) hi d_MD_solveAll_112 ?_
    refine j_i2l C d_MD_solveAll_113 ?_
    refine j_aload_n C d_MD_solveAll_114 rfl 0 rfl ?_
    refine j_aload_n C d_MD_solveAll_115 rfl 0 rfl ?_
    refine fg_MD_63 C g_h0 d_MD_solveAll_116 ?_
    refine j_iload_n C d_MD_solveAll_119 rfl 1 rfl ?_
    obtain ⟨hi, h⟩ := h
    refine j_iaload C (sh_MD_20 hE g_h0) hi d_MD_solveAll_120 ?_
    refine j_callVi (As := [.int (I (jr h0 20) v1.toNatClampNeg)]) C jcl_MD cw_MD_182 w_991 ws_46 g_h0 rfl rfl (by decide) (by decide) (Nat.le_of_ble_eq_true rfl) d_MD_solveAll_121 (s_MD_inverse C.ok g_h0 h) (fun r_2 I2 h => ?_)
    obtain ⟨rfl, h⟩ := h
    refine j_i2l C d_MD_solveAll_124 ?_
    refine j_lmul C d_MD_solveAll_125 ?_
    refine j_aload_n C d_MD_solveAll_126 rfl 0 rfl ?_
    refine fg_MD_13 C g_h0 d_MD_solveAll_127 ?_
    refine j_i2l C d_MD_solveAll_130 ?_
    obtain ⟨hn, h⟩ := h
    refine j_lrem C d_MD_solveAll_131 hn ?_
    refine j_l2i C d_MD_solveAll_132 ?_
    obtain ⟨hi, h⟩ := h
    refine j_iastore C (sh_MD_22 hE g_h0) hi d_MD_solveAll_133 ?_
    have h := h _ rfl
    generalize eI_3 : (jwr I (jr h0 22) v1.toNatClampNeg ((((I (jr h0 22) v1.toNatClampNeg).toInt64 * r_2.toInt64) - ((I (jr h0 22) v1.toNatClampNeg).toInt64 * r_2.toInt64) / (I h0 1).toInt64 * (I h0 1).toInt64).toInt32) : jM) = I_3 at h ⊢
    refine j_iinc C d_MD_solveAll_134 1 rfl (v := (v1 + 1)) rfl (by decide) (lv' := [(1, .int (v1 + 1)), (0, .ref (E.2.2.1 h0))]) rfl ?_
    refine j_goto C d_MD_solveAll_137 (tgt := 94) (by decide) ?_
    refine j_lv [1, 0] rfl ?_
    exact hX94 ((v1 + 1), I_3) h
theorem k_MD_solveAll_94 {Z : jZ} {E : jE} (C : jC Z E prog_14_method_57_code 3 "OutOrderModel" 1 26) (hr : (jZh Z).sig.returnType = none) (hE : E.2.2.2 = jLM)  (h0 : Nat) (v1 : Int32) (I : jM) (g_h0 : jOB E 11 h0) {K : jM → Prop} (h : MD_solveAll_94 h0 v1 I K) : jJ Z E 3 (jQv Z E K) 94 [(0, .ref (E.2.2.1 h0)), (1, .int v1)] [] I := by
  unfold MD_solveAll_94 at h
  exact h (fun s => jJ Z E 3 (jQv Z E K) 94 [(0, .ref (E.2.2.1 h0)), (1, .int s.1)] [] s.2) (fun s hs => kb_MD_solveAll_94 C hr hE h0 s.1 s.2 g_h0 (fun s2 h2 => h2) hs)
def MD_solveAll_12b (h0 : Nat) (v1 : Int32) (v2 : Int32) (I : jM) (K : jM → Prop) (X2 : Int32 × jM → Prop) (X12 : Int32 × jM → Prop) : Prop :=
  ((v1 ≤ v2 → X2 ((v1 + 1), I)) ∧ (¬ v1 ≤ v2 → (vp_in v1 24 ∧ (vp_in v1 24 ∧ (vp_in (I (jr h0 4) v1.toNatClampNeg) 24 ∧ (vp_in v1 24 ∧ (vp_in v2 24 ∧ (vp_in (((24 : Int32) * (I (jr h0 4) v1.toNatClampNeg)) + (I (jr h0 4) v2.toNatClampNeg)) 576 ∧ (vp_in v2 24 ∧ (vp_in (I (jr h0 4) v2.toNatClampNeg) 24 ∧ MD_modulo h0 ((I (jr h0 22) (I (jr h0 4) v1.toNatClampNeg).toNatClampNeg).toInt64 - ((I (jr h0 21) (((24 : Int32) * (I (jr h0 4) v1.toNatClampNeg)) + (I (jr h0 4) v2.toNatClampNeg)).toNatClampNeg).toInt64 * (I (jr h0 22) (I (jr h0 4) v2.toNatClampNeg).toNatClampNeg).toInt64)) I (fun r_1 => (vp_in (I (jr h0 4) v1.toNatClampNeg) 24 ∧ (∀ I_2 : jM, I_2 = jwr I (jr h0 22) (I (jr h0 4) v1.toNatClampNeg).toNatClampNeg r_1 → X12 ((v2 + 1), I_2))))))))))))))
def MD_solveAll_12 (h0 : Nat) (v1 : Int32) (v2 : Int32) (I : jM) (K : jM → Prop) (X2 : Int32 × jM → Prop) : Prop :=
  lp (fun (X12 : Int32 × jM → Prop) (s : Int32 × jM) => MD_solveAll_12b h0 v1 s.1 s.2 K X2 X12) (v2, I)
set_option maxRecDepth 100000 in
set_option maxHeartbeats 4000000 in
theorem kb_MD_solveAll_12 {Z : jZ} {E : jE} (C : jC Z E prog_14_method_57_code 3 "OutOrderModel" 1 26) (hr : (jZh Z).sig.returnType = none) (hE : E.2.2.2 = jLM)  (h0 : Nat) (v1 : Int32) (v2 : Int32) (I : jM) (g_h0 : jOB E 11 h0) {K : jM → Prop} {X2 : Int32 × jM → Prop} (hX2 : ∀ s : Int32 × jM, X2 s → jJ Z E 3 (jQv Z E K) 2 [(0, .ref (E.2.2.1 h0)), (1, .int s.1)] [] s.2) {X12 : Int32 × jM → Prop} (hX12 : ∀ s : Int32 × jM, X12 s → jJ Z E 3 (jQv Z E K) 12 [(0, .ref (E.2.2.1 h0)), (1, .int v1), (2, .int s.1)] [] s.2) (h : MD_solveAll_12b h0 v1 v2 I K X2 X12) : jJ Z E 3 (jQv Z E K) 12 [(0, .ref (E.2.2.1 h0)), (1, .int v1), (2, .int v2)] [] I := by
  unfold MD_solveAll_12b at h
  refine j_iload_n C d_MD_solveAll_12 rfl 2 rfl ?_
  refine j_iload_n C d_MD_solveAll_13 rfl 1 rfl ?_
  refine j_icmp_ge C d_MD_solveAll_14 (tgt := 86) (by decide) (fun c14 => ?_) (fun c14 => ?_)
  · have h := h.1 c14
    refine j_iinc C d_MD_solveAll_86 1 rfl (v := (v1 + 1)) rfl (by decide) (lv' := [(1, .int (v1 + 1)), (0, .ref (E.2.2.1 h0)), (2, .int v2)]) rfl ?_
    refine j_goto C d_MD_solveAll_89 (tgt := 2) (by decide) ?_
    refine j_lv [1, 0] rfl ?_
    exact hX2 ((v1 + 1), I) h
  · have h := h.2 c14
    refine j_aload_n C d_MD_solveAll_17 rfl 0 rfl ?_
    refine fg_MD_69 C g_h0 d_MD_solveAll_18 ?_
    refine j_aload_n C d_MD_solveAll_21 rfl 0 rfl ?_
    refine fg_MD_24 C g_h0 d_MD_solveAll_22 ?_
    refine j_iload_n C d_MD_solveAll_25 rfl 1 rfl ?_
    obtain ⟨hi, h⟩ := h
    refine j_iaload C (sh_MD_4 hE g_h0) hi d_MD_solveAll_26 ?_
    refine j_aload_n C d_MD_solveAll_27 rfl 0 rfl ?_
    refine j_aload_n C d_MD_solveAll_28 rfl 0 rfl ?_
    refine fg_MD_69 C g_h0 d_MD_solveAll_29 ?_
    refine j_aload_n C d_MD_solveAll_32 rfl 0 rfl ?_
    refine fg_MD_24 C g_h0 d_MD_solveAll_33 ?_
    refine j_iload_n C d_MD_solveAll_36 rfl 1 rfl ?_
    obtain ⟨hi, h⟩ := h
    refine j_iaload C (sh_MD_4 hE g_h0) hi d_MD_solveAll_37 ?_
    obtain ⟨hi, h⟩ := h
    refine j_iaload C (sh_MD_22 hE g_h0) hi d_MD_solveAll_38 ?_
    refine j_i2l C d_MD_solveAll_39 ?_
    refine j_aload_n C d_MD_solveAll_40 rfl 0 rfl ?_
    refine fg_MD_66 C g_h0 d_MD_solveAll_41 ?_
    refine j_bipush C d_MD_solveAll_44 ib_24 ?_
    refine j_aload_n C d_MD_solveAll_46 rfl 0 rfl ?_
    refine fg_MD_24 C g_h0 d_MD_solveAll_47 ?_
    refine j_iload_n C d_MD_solveAll_50 rfl 1 rfl ?_
    obtain ⟨hi, h⟩ := h
    refine j_iaload C (sh_MD_4 hE g_h0) hi d_MD_solveAll_51 ?_
    refine j_imul C d_MD_solveAll_52 ?_
    refine j_aload_n C d_MD_solveAll_53 rfl 0 rfl ?_
    refine fg_MD_24 C g_h0 d_MD_solveAll_54 ?_
    refine j_iload_n C d_MD_solveAll_57 rfl 2 rfl ?_
    obtain ⟨hi, h⟩ := h
    refine j_iaload C (sh_MD_4 hE g_h0) hi d_MD_solveAll_58 ?_
    refine j_iadd C d_MD_solveAll_59 ?_
    obtain ⟨hi, h⟩ := h
    refine j_iaload C (sh_MD_21 hE g_h0) hi d_MD_solveAll_60 ?_
    refine j_i2l C d_MD_solveAll_61 ?_
    refine j_aload_n C d_MD_solveAll_62 rfl 0 rfl ?_
    refine fg_MD_69 C g_h0 d_MD_solveAll_63 ?_
    refine j_aload_n C d_MD_solveAll_66 rfl 0 rfl ?_
    refine fg_MD_24 C g_h0 d_MD_solveAll_67 ?_
    refine j_iload_n C d_MD_solveAll_70 rfl 2 rfl ?_
    obtain ⟨hi, h⟩ := h
    refine j_iaload C (sh_MD_4 hE g_h0) hi d_MD_solveAll_71 ?_
    obtain ⟨hi, h⟩ := h
    refine j_iaload C (sh_MD_22 hE g_h0) hi d_MD_solveAll_72 ?_
    refine j_i2l C d_MD_solveAll_73 ?_
    refine j_lmul C d_MD_solveAll_74 ?_
    refine j_lsub C d_MD_solveAll_75 ?_
    refine j_callVi (As := [.long ((I (jr h0 22) (I (jr h0 4) v1.toNatClampNeg).toNatClampNeg).toInt64 - ((I (jr h0 21) (((24 : Int32) * (I (jr h0 4) v1.toNatClampNeg)) + (I (jr h0 4) v2.toNatClampNeg)).toNatClampNeg).toInt64 * (I (jr h0 22) (I (jr h0 4) v2.toNatClampNeg).toNatClampNeg).toInt64))]) C jcl_MD cw_MD_94 w_836 ws_27 g_h0 rfl rfl (by decide) (by decide) (Nat.le_of_ble_eq_true rfl) d_MD_solveAll_76 (s_MD_modulo C.ok g_h0 h) (fun r_1 I2 h => ?_)
    obtain ⟨rfl, h⟩ := h
    obtain ⟨hi, h⟩ := h
    refine j_iastore C (sh_MD_22 hE g_h0) hi d_MD_solveAll_79 ?_
    have h := h _ rfl
    generalize eI_2 : (jwr I (jr h0 22) (I (jr h0 4) v1.toNatClampNeg).toNatClampNeg r_1 : jM) = I_2 at h ⊢
    refine j_iinc C d_MD_solveAll_80 2 rfl (v := (v2 + 1)) rfl (by decide) (lv' := [(2, .int (v2 + 1)), (0, .ref (E.2.2.1 h0)), (1, .int v1)]) rfl ?_
    refine j_goto C d_MD_solveAll_83 (tgt := 12) (by decide) ?_
    refine j_lv [1, 2, 0] rfl ?_
    exact hX12 ((v2 + 1), I_2) h
theorem k_MD_solveAll_12 {Z : jZ} {E : jE} (C : jC Z E prog_14_method_57_code 3 "OutOrderModel" 1 26) (hr : (jZh Z).sig.returnType = none) (hE : E.2.2.2 = jLM)  (h0 : Nat) (v1 : Int32) (v2 : Int32) (I : jM) (g_h0 : jOB E 11 h0) {K : jM → Prop} {X2 : Int32 × jM → Prop} (hX2 : ∀ s : Int32 × jM, X2 s → jJ Z E 3 (jQv Z E K) 2 [(0, .ref (E.2.2.1 h0)), (1, .int s.1)] [] s.2) (h : MD_solveAll_12 h0 v1 v2 I K X2) : jJ Z E 3 (jQv Z E K) 12 [(0, .ref (E.2.2.1 h0)), (1, .int v1), (2, .int v2)] [] I := by
  unfold MD_solveAll_12 at h
  exact h (fun s => jJ Z E 3 (jQv Z E K) 12 [(0, .ref (E.2.2.1 h0)), (1, .int v1), (2, .int s.1)] [] s.2) (fun s hs => kb_MD_solveAll_12 C hr hE h0 v1 s.1 s.2 g_h0 hX2 (fun s2 h2 => h2) hs)
def MD_solveAll_2b (h0 : Nat) (v1 : Int32) (I : jM) (K : jM → Prop) (X2 : Int32 × jM → Prop) : Prop :=
  (((I h0 0) ≤ v1 → MD_solveAll_94 h0 (0 : Int32) I K) ∧ (¬ (I h0 0) ≤ v1 → MD_solveAll_12 h0 v1 (0 : Int32) I K X2))
def MD_solveAll_2 (h0 : Nat) (v1 : Int32) (I : jM) (K : jM → Prop) : Prop :=
  lp (fun (X2 : Int32 × jM → Prop) (s : Int32 × jM) => MD_solveAll_2b h0 s.1 s.2 K X2) (v1, I)
set_option maxRecDepth 100000 in
set_option maxHeartbeats 4000000 in
theorem kb_MD_solveAll_2 {Z : jZ} {E : jE} (C : jC Z E prog_14_method_57_code 3 "OutOrderModel" 1 26) (hr : (jZh Z).sig.returnType = none) (hE : E.2.2.2 = jLM)  (h0 : Nat) (v1 : Int32) (I : jM) (g_h0 : jOB E 11 h0) {K : jM → Prop} {X2 : Int32 × jM → Prop} (hX2 : ∀ s : Int32 × jM, X2 s → jJ Z E 3 (jQv Z E K) 2 [(0, .ref (E.2.2.1 h0)), (1, .int s.1)] [] s.2) (h : MD_solveAll_2b h0 v1 I K X2) : jJ Z E 3 (jQv Z E K) 2 [(0, .ref (E.2.2.1 h0)), (1, .int v1)] [] I := by
  unfold MD_solveAll_2b at h
  refine j_iload_n C d_MD_solveAll_2 rfl 1 rfl ?_
  refine j_aload_n C d_MD_solveAll_3 rfl 0 rfl ?_
  refine fg_MD_7 C g_h0 d_MD_solveAll_4 ?_
  refine j_icmp_ge C d_MD_solveAll_7 (tgt := 92) (by decide) (fun c7 => ?_) (fun c7 => ?_)
  · have h := h.1 c7
    refine j_iconst C d_MD_solveAll_92 ic_0 ?_
    refine j_istore_n C d_MD_solveAll_93 rfl (by decide) (lv' := [(1, .int (0 : Int32)), (0, .ref (E.2.2.1 h0))]) rfl ?_
    refine j_lv [1, 0] rfl ?_
    exact k_MD_solveAll_94 C hr hE h0 (0 : Int32) I g_h0 h
  · have h := h.2 c7
    refine j_iconst C d_MD_solveAll_10 ic_0 ?_
    refine j_istore_n C d_MD_solveAll_11 rfl (by decide) (lv' := [(2, .int (0 : Int32)), (0, .ref (E.2.2.1 h0)), (1, .int v1)]) rfl ?_
    refine j_lv [1, 2, 0] rfl ?_
    exact k_MD_solveAll_12 C hr hE h0 v1 (0 : Int32) I g_h0 hX2 h
theorem k_MD_solveAll_2 {Z : jZ} {E : jE} (C : jC Z E prog_14_method_57_code 3 "OutOrderModel" 1 26) (hr : (jZh Z).sig.returnType = none) (hE : E.2.2.2 = jLM)  (h0 : Nat) (v1 : Int32) (I : jM) (g_h0 : jOB E 11 h0) {K : jM → Prop} (h : MD_solveAll_2 h0 v1 I K) : jJ Z E 3 (jQv Z E K) 2 [(0, .ref (E.2.2.1 h0)), (1, .int v1)] [] I := by
  unfold MD_solveAll_2 at h
  exact h (fun s => jJ Z E 3 (jQv Z E K) 2 [(0, .ref (E.2.2.1 h0)), (1, .int s.1)] [] s.2) (fun s hs => kb_MD_solveAll_2 C hr hE h0 s.1 s.2 g_h0 (fun s2 h2 => h2) hs)
/-- OutOrderModel.solveAll()V -/
def MD_solveAll (h0 : Nat) (I : jM) (K : jM → Prop) : Prop :=
  MD_solveAll_2 h0 (0 : Int32) I K
set_option maxRecDepth 100000 in
set_option maxHeartbeats 4000000 in
theorem s_MD_solveAll {l : Launch} {E : jE} (ok : jOK E) (hE : E.2.2.2 = jLM) {h0 : Nat} (g_h0 : jOB E 11 h0) {I : jM} {K : jM → Prop} (h : MD_solveAll h0 I K) : jSv l E ⟨"OutOrderModel", "solveAll", "()V"⟩ prog_14_method_57_code 3 none 1 26 [.ref (E.2.2.1 h0)] I K := by
  refine jS_ofF (own := "OutOrderModel") (by decide +kernel) rfl ok (Nat.le_of_ble_eq_true rfl) (fun Z _ C hr => ?_)
  show jJ Z E 3 (jQv Z E K) 0 [(0, .ref (E.2.2.1 h0))] [] I
  unfold MD_solveAll at h
  refine j_iconst C d_MD_solveAll_0 ic_0 ?_
  refine j_istore_n C d_MD_solveAll_1 rfl (by decide) (lv' := [(1, .int (0 : Int32)), (0, .ref (E.2.2.1 h0))]) rfl ?_
  refine j_lv [1, 0] rfl ?_
  exact k_MD_solveAll_2 C hr hE h0 (0 : Int32) I g_h0 h
theorem d_MD_inside_0 : decode prog_14_method_59_code 0 = .ok (.aload_n 0, 1) := by decide +kernel
theorem d_MD_inside_1 : decode prog_14_method_59_code 1 = .ok (.iload_n 1, 1) := by decide +kernel
theorem d_MD_inside_2 : decode prog_14_method_59_code 2 = .ok (.invokevirtual 90, 3) := by decide +kernel
theorem d_MD_inside_5 : decode prog_14_method_59_code 5 = .ok (.ifCond .eq 11, 3) := by decide +kernel
theorem d_MD_inside_8 : decode prog_14_method_59_code 8 = .ok (.aload_n 0, 1) := by decide +kernel
theorem d_MD_inside_9 : decode prog_14_method_59_code 9 = .ok (.iload_n 2, 1) := by decide +kernel
theorem d_MD_inside_10 : decode prog_14_method_59_code 10 = .ok (.invokevirtual 90, 3) := by decide +kernel
theorem d_MD_inside_13 : decode prog_14_method_59_code 13 = .ok (.ifCond .ne 9, 3) := by decide +kernel
theorem d_MD_inside_16 : decode prog_14_method_59_code 16 = .ok (.aload_n 0, 1) := by decide +kernel
theorem d_MD_inside_17 : decode prog_14_method_59_code 17 = .ok (.iconst (-1), 1) := by decide +kernel
theorem d_MD_inside_18 : decode prog_14_method_59_code 18 = .ok (.invokevirtual 79, 3) := by decide +kernel
theorem d_MD_inside_21 : decode prog_14_method_59_code 21 = .ok (.ireturn, 1) := by decide +kernel
theorem d_MD_inside_22 : decode prog_14_method_59_code 22 = .ok (.aload_n 0, 1) := by decide +kernel
theorem d_MD_inside_23 : decode prog_14_method_59_code 23 = .ok (.invokevirtual 188, 3) := by decide +kernel
theorem d_MD_inside_26 : decode prog_14_method_59_code 26 = .ok (.ifCond .ne 10, 3) := by decide +kernel
theorem d_MD_inside_29 : decode prog_14_method_59_code 29 = .ok (.aload_n 0, 1) := by decide +kernel
theorem d_MD_inside_30 : decode prog_14_method_59_code 30 = .ok (.bipush (-5), 2) := by decide +kernel
theorem d_MD_inside_32 : decode prog_14_method_59_code 32 = .ok (.invokevirtual 79, 3) := by decide +kernel
theorem d_MD_inside_35 : decode prog_14_method_59_code 35 = .ok (.ireturn, 1) := by decide +kernel
theorem d_MD_inside_36 : decode prog_14_method_59_code 36 = .ok (.iconst 0, 1) := by decide +kernel
theorem d_MD_inside_37 : decode prog_14_method_59_code 37 = .ok (.istore_n 3, 1) := by decide +kernel
theorem d_MD_inside_38 : decode prog_14_method_59_code 38 = .ok (.iload_n 3, 1) := by decide +kernel
theorem d_MD_inside_39 : decode prog_14_method_59_code 39 = .ok (.aload_n 0, 1) := by decide +kernel
theorem d_MD_inside_40 : decode prog_14_method_59_code 40 = .ok (.getfield 7, 3) := by decide +kernel
theorem d_MD_inside_43 : decode prog_14_method_59_code 43 = .ok (.if_icmp .ge 25, 3) := by decide +kernel
theorem d_MD_inside_46 : decode prog_14_method_59_code 46 = .ok (.aload_n 0, 1) := by decide +kernel
theorem d_MD_inside_47 : decode prog_14_method_59_code 47 = .ok (.getfield 69, 3) := by decide +kernel
theorem d_MD_inside_50 : decode prog_14_method_59_code 50 = .ok (.iload_n 3, 1) := by decide +kernel
theorem d_MD_inside_51 : decode prog_14_method_59_code 51 = .ok (.iload_n 3, 1) := by decide +kernel
theorem d_MD_inside_52 : decode prog_14_method_59_code 52 = .ok (.iload_n 2, 1) := by decide +kernel
theorem d_MD_inside_53 : decode prog_14_method_59_code 53 = .ok (.if_icmp .ne 7, 3) := by decide +kernel
theorem d_MD_inside_56 : decode prog_14_method_59_code 56 = .ok (.iconst 1, 1) := by decide +kernel
theorem d_MD_inside_57 : decode prog_14_method_59_code 57 = .ok (.goto 4, 3) := by decide +kernel
theorem d_MD_inside_60 : decode prog_14_method_59_code 60 = .ok (.iconst 0, 1) := by decide +kernel
theorem d_MD_inside_61 : decode prog_14_method_59_code 61 = .ok (.iastore, 1) := by decide +kernel
theorem d_MD_inside_62 : decode prog_14_method_59_code 62 = .ok (.iinc 3 1, 3) := by decide +kernel
theorem d_MD_inside_65 : decode prog_14_method_59_code 65 = .ok (.goto (-27), 3) := by decide +kernel
theorem d_MD_inside_68 : decode prog_14_method_59_code 68 = .ok (.aload_n 0, 1) := by decide +kernel
theorem d_MD_inside_69 : decode prog_14_method_59_code 69 = .ok (.invokevirtual 191, 3) := by decide +kernel
theorem d_MD_inside_72 : decode prog_14_method_59_code 72 = .ok (.aload_n 0, 1) := by decide +kernel
theorem d_MD_inside_73 : decode prog_14_method_59_code 73 = .ok (.getfield 69, 3) := by decide +kernel
theorem d_MD_inside_76 : decode prog_14_method_59_code 76 = .ok (.iload_n 1, 1) := by decide +kernel
theorem d_MD_inside_77 : decode prog_14_method_59_code 77 = .ok (.iaload, 1) := by decide +kernel
theorem d_MD_inside_78 : decode prog_14_method_59_code 78 = .ok (.ireturn, 1) := by decide +kernel
def MD_inside_16 (h0 : Nat) (I : jM) (K : Int32 → jM → Prop) : Prop :=
  MD_refuse h0 (-1 : Int32) I (fun r_1 I_2 => K r_1 I_2)
set_option maxRecDepth 100000 in
set_option maxHeartbeats 4000000 in
theorem k_MD_inside_16 {Z : jZ} {E : jE} (C : jC Z E prog_14_method_59_code 4 "OutOrderModel" 2 48) (hr : (jZh Z).sig.returnType = (some .int)) (hE : E.2.2.2 = jLM)  (h0 : Nat) (I : jM) (g_h0 : jOB E 11 h0) {K : Int32 → jM → Prop} (h : MD_inside_16 h0 I K) : jJ Z E 4 (jQi Z E K) 16 [(0, .ref (E.2.2.1 h0))] [] I := by
  unfold MD_inside_16 at h
  refine j_aload_n C d_MD_inside_16 rfl 0 rfl ?_
  refine j_iconst C d_MD_inside_17 ic_m1 ?_
  refine j_callVi (As := [.int (-1 : Int32)]) C jcl_MD cw_MD_79 w_809 ws_23 g_h0 rfl rfl (by decide) (by decide) (Nat.le_of_ble_eq_true rfl) d_MD_inside_18 (s_MD_refuse C.ok hE g_h0 h) (fun r_1 I_2 h => ?_)
  exact j_iret C hr d_MD_inside_21 h
def MD_inside_38b (h0 : Nat) (v1 : Int32) (v2 : Int32) (v3 : Int32) (I : jM) (K : Int32 → jM → Prop) (X38 : Int32 × jM → Prop) : Prop :=
  (((I h0 0) ≤ v3 → MD_solveAll h0 I (fun I_2 => (vp_in v1 24 ∧ K (I_2 (jr h0 22) v1.toNatClampNeg) I_2))) ∧ (¬ (I h0 0) ≤ v3 → ((¬ v3 = v2 → (vp_in v3 24 ∧ (∀ I_3 : jM, I_3 = jwr I (jr h0 22) v3.toNatClampNeg (0 : Int32) → X38 ((v3 + 1), I_3)))) ∧ (v3 = v2 → (vp_in v3 24 ∧ (∀ I_4 : jM, I_4 = jwr I (jr h0 22) v3.toNatClampNeg (1 : Int32) → X38 ((v3 + 1), I_4)))))))
def MD_inside_38 (h0 : Nat) (v1 : Int32) (v2 : Int32) (v3 : Int32) (I : jM) (K : Int32 → jM → Prop) : Prop :=
  lp (fun (X38 : Int32 × jM → Prop) (s : Int32 × jM) => MD_inside_38b h0 v1 v2 s.1 s.2 K X38) (v3, I)
set_option maxRecDepth 100000 in
set_option maxHeartbeats 4000000 in
theorem kb_MD_inside_38 {Z : jZ} {E : jE} (C : jC Z E prog_14_method_59_code 4 "OutOrderModel" 2 48) (hr : (jZh Z).sig.returnType = (some .int)) (hE : E.2.2.2 = jLM)  (h0 : Nat) (v1 : Int32) (v2 : Int32) (v3 : Int32) (I : jM) (g_h0 : jOB E 11 h0) {K : Int32 → jM → Prop} {X38 : Int32 × jM → Prop} (hX38 : ∀ s : Int32 × jM, X38 s → jJ Z E 4 (jQi Z E K) 38 [(0, .ref (E.2.2.1 h0)), (1, .int v1), (2, .int v2), (3, .int s.1)] [] s.2) (h : MD_inside_38b h0 v1 v2 v3 I K X38) : jJ Z E 4 (jQi Z E K) 38 [(0, .ref (E.2.2.1 h0)), (1, .int v1), (2, .int v2), (3, .int v3)] [] I := by
  unfold MD_inside_38b at h
  refine j_iload_n C d_MD_inside_38 rfl 3 rfl ?_
  refine j_aload_n C d_MD_inside_39 rfl 0 rfl ?_
  refine fg_MD_7 C g_h0 d_MD_inside_40 ?_
  refine j_icmp_ge C d_MD_inside_43 (tgt := 68) (by decide) (fun c43 => ?_) (fun c43 => ?_)
  · have h := h.1 c43
    refine j_aload_n C d_MD_inside_68 rfl 0 rfl ?_
    refine j_callVv (As := []) C jcl_MD cw_MD_191 w_1023 ws_49 g_h0 rfl rfl (by decide) (by decide) (Nat.le_of_ble_eq_true rfl) d_MD_inside_69 (s_MD_solveAll C.ok hE g_h0 h) (fun I_2 h => ?_)
    refine j_aload_n C d_MD_inside_72 rfl 0 rfl ?_
    refine fg_MD_69 C g_h0 d_MD_inside_73 ?_
    refine j_iload_n C d_MD_inside_76 rfl 1 rfl ?_
    obtain ⟨hi, h⟩ := h
    refine j_iaload C (sh_MD_22 hE g_h0) hi d_MD_inside_77 ?_
    exact j_iret C hr d_MD_inside_78 h
  · have h := h.2 c43
    refine j_aload_n C d_MD_inside_46 rfl 0 rfl ?_
    refine fg_MD_69 C g_h0 d_MD_inside_47 ?_
    refine j_iload_n C d_MD_inside_50 rfl 3 rfl ?_
    refine j_iload_n C d_MD_inside_51 rfl 3 rfl ?_
    refine j_iload_n C d_MD_inside_52 rfl 2 rfl ?_
    refine j_icmp_ne C d_MD_inside_53 (tgt := 60) (by decide) (fun c53 => ?_) (fun c53 => ?_)
    · have h := h.1 c53
      refine j_iconst C d_MD_inside_60 ic_0 ?_
      obtain ⟨hi, h⟩ := h
      refine j_iastore C (sh_MD_22 hE g_h0) hi d_MD_inside_61 ?_
      have h := h _ rfl
      generalize eI_3 : (jwr I (jr h0 22) v3.toNatClampNeg (0 : Int32) : jM) = I_3 at h ⊢
      refine j_iinc C d_MD_inside_62 3 rfl (v := (v3 + 1)) rfl (by decide) (lv' := [(3, .int (v3 + 1)), (0, .ref (E.2.2.1 h0)), (1, .int v1), (2, .int v2)]) rfl ?_
      refine j_goto C d_MD_inside_65 (tgt := 38) (by decide) ?_
      refine j_lv [1, 2, 3, 0] rfl ?_
      exact hX38 ((v3 + 1), I_3) h
    · have h := h.2 c53
      refine j_iconst C d_MD_inside_56 ic_1 ?_
      refine j_goto C d_MD_inside_57 (tgt := 61) (by decide) ?_
      obtain ⟨hi, h⟩ := h
      refine j_iastore C (sh_MD_22 hE g_h0) hi d_MD_inside_61 ?_
      have h := h _ rfl
      generalize eI_4 : (jwr I (jr h0 22) v3.toNatClampNeg (1 : Int32) : jM) = I_4 at h ⊢
      refine j_iinc C d_MD_inside_62 3 rfl (v := (v3 + 1)) rfl (by decide) (lv' := [(3, .int (v3 + 1)), (0, .ref (E.2.2.1 h0)), (1, .int v1), (2, .int v2)]) rfl ?_
      refine j_goto C d_MD_inside_65 (tgt := 38) (by decide) ?_
      refine j_lv [1, 2, 3, 0] rfl ?_
      exact hX38 ((v3 + 1), I_4) h
theorem k_MD_inside_38 {Z : jZ} {E : jE} (C : jC Z E prog_14_method_59_code 4 "OutOrderModel" 2 48) (hr : (jZh Z).sig.returnType = (some .int)) (hE : E.2.2.2 = jLM)  (h0 : Nat) (v1 : Int32) (v2 : Int32) (v3 : Int32) (I : jM) (g_h0 : jOB E 11 h0) {K : Int32 → jM → Prop} (h : MD_inside_38 h0 v1 v2 v3 I K) : jJ Z E 4 (jQi Z E K) 38 [(0, .ref (E.2.2.1 h0)), (1, .int v1), (2, .int v2), (3, .int v3)] [] I := by
  unfold MD_inside_38 at h
  exact h (fun s => jJ Z E 4 (jQi Z E K) 38 [(0, .ref (E.2.2.1 h0)), (1, .int v1), (2, .int v2), (3, .int s.1)] [] s.2) (fun s hs => kb_MD_inside_38 C hr hE h0 v1 v2 s.1 s.2 g_h0 (fun s2 h2 => h2) hs)
/-- OutOrderModel.inside(II)I -/
def MD_inside (h0 : Nat) (v1 : Int32) (v2 : Int32) (I : jM) (K : Int32 → jM → Prop) : Prop :=
  MD_isUnknown h0 v1 I (fun r_1 => ((r_1 = 0 → MD_inside_16 h0 I K) ∧ (¬ r_1 = 0 → MD_isUnknown h0 v2 I (fun r_2 => ((¬ r_2 = 0 → MD_isSolved h0 I (fun r_3 => ((¬ r_3 = 0 → MD_inside_38 h0 v1 v2 (0 : Int32) I K) ∧ (r_3 = 0 → MD_refuse h0 (-5 : Int32) I (fun r_4 I_5 => K r_4 I_5))))) ∧ (r_2 = 0 → MD_inside_16 h0 I K))))))
set_option maxRecDepth 100000 in
set_option maxHeartbeats 4000000 in
theorem s_MD_inside {l : Launch} {E : jE} (ok : jOK E) (hE : E.2.2.2 = jLM) {h0 : Nat} {v1 : Int32} {v2 : Int32} (g_h0 : jOB E 11 h0) {I : jM} {K : Int32 → jM → Prop} (h : MD_inside h0 v1 v2 I K) : jSi l E ⟨"OutOrderModel", "inside", "(II)I"⟩ prog_14_method_59_code 4 (some .int) 2 48 [.ref (E.2.2.1 h0), .int v1, .int v2] I K := by
  refine jS_ofF (own := "OutOrderModel") (by decide +kernel) rfl ok (Nat.le_of_ble_eq_true rfl) (fun Z _ C hr => ?_)
  show jJ Z E 4 (jQi Z E K) 0 [(0, .ref (E.2.2.1 h0)), (1, .int v1), (2, .int v2)] [] I
  unfold MD_inside at h
  refine j_aload_n C d_MD_inside_0 rfl 0 rfl ?_
  refine j_iload_n C d_MD_inside_1 rfl 1 rfl ?_
  refine j_callVi (As := [.int v1]) C jcl_MD cw_MD_90 w_829 ws_26 g_h0 rfl rfl (by decide) (by decide) (Nat.le_of_ble_eq_true rfl) d_MD_inside_2 (s_MD_isUnknown C.ok g_h0 h) (fun r_1 I2 h => ?_)
  obtain ⟨rfl, h⟩ := h
  refine j_if_eq C d_MD_inside_5 (tgt := 16) (by decide) (fun c5 => ?_) (fun c5 => ?_)
  · have h := h.1 c5
    refine j_lv [0] rfl ?_
    exact k_MD_inside_16 C hr hE h0 I g_h0 h
  · have h := h.2 c5
    refine j_aload_n C d_MD_inside_8 rfl 0 rfl ?_
    refine j_iload_n C d_MD_inside_9 rfl 2 rfl ?_
    refine j_callVi (As := [.int v2]) C jcl_MD cw_MD_90 w_829 ws_26 g_h0 rfl rfl (by decide) (by decide) (Nat.le_of_ble_eq_true rfl) d_MD_inside_10 (s_MD_isUnknown C.ok g_h0 h) (fun r_2 I2 h => ?_)
    obtain ⟨rfl, h⟩ := h
    refine j_if_ne C d_MD_inside_13 (tgt := 22) (by decide) (fun c13 => ?_) (fun c13 => ?_)
    · have h := h.1 c13
      refine j_aload_n C d_MD_inside_22 rfl 0 rfl ?_
      refine j_callVi (As := []) C jcl_MD cw_MD_188 w_1019 ws_48 g_h0 rfl rfl (by decide) (by decide) (Nat.le_of_ble_eq_true rfl) d_MD_inside_23 (s_MD_isSolved C.ok hE g_h0 h) (fun r_3 I2 h => ?_)
      obtain ⟨rfl, h⟩ := h
      refine j_if_ne C d_MD_inside_26 (tgt := 36) (by decide) (fun c26 => ?_) (fun c26 => ?_)
      · have h := h.1 c26
        refine j_iconst C d_MD_inside_36 ic_0 ?_
        refine j_istore_n C d_MD_inside_37 rfl (by decide) (lv' := [(3, .int (0 : Int32)), (0, .ref (E.2.2.1 h0)), (1, .int v1), (2, .int v2)]) rfl ?_
        refine j_lv [1, 2, 3, 0] rfl ?_
        exact k_MD_inside_38 C hr hE h0 v1 v2 (0 : Int32) I g_h0 h
      · have h := h.2 c26
        refine j_aload_n C d_MD_inside_29 rfl 0 rfl ?_
        refine j_bipush C d_MD_inside_30 ib_m5 ?_
        refine j_callVi (As := [.int (-5 : Int32)]) C jcl_MD cw_MD_79 w_809 ws_23 g_h0 rfl rfl (by decide) (by decide) (Nat.le_of_ble_eq_true rfl) d_MD_inside_32 (s_MD_refuse C.ok hE g_h0 h) (fun r_4 I_5 h => ?_)
        exact j_iret C hr d_MD_inside_35 h
    · have h := h.2 c13
      refine j_lv [0] rfl ?_
      exact k_MD_inside_16 C hr hE h0 I g_h0 h
