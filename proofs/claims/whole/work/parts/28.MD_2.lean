theorem d_MD_goThrough_0 : decode prog_14_method_16_code 0 = .ok (.aload_n 0, 1) := by decide +kernel
theorem d_MD_goThrough_1 : decode prog_14_method_16_code 1 = .ok (.invokevirtual 100, 3) := by decide +kernel
theorem d_MD_goThrough_4 : decode prog_14_method_16_code 4 = .ok (.iconst 1, 1) := by decide +kernel
theorem d_MD_goThrough_5 : decode prog_14_method_16_code 5 = .ok (.aload_n 0, 1) := by decide +kernel
theorem d_MD_goThrough_6 : decode prog_14_method_16_code 6 = .ok (.getfield 7, 3) := by decide +kernel
theorem d_MD_goThrough_9 : decode prog_14_method_16_code 9 = .ok (.ishl, 1) := by decide +kernel
theorem d_MD_goThrough_10 : decode prog_14_method_16_code 10 = .ok (.iconst 1, 1) := by decide +kernel
theorem d_MD_goThrough_11 : decode prog_14_method_16_code 11 = .ok (.isub, 1) := by decide +kernel
theorem d_MD_goThrough_12 : decode prog_14_method_16_code 12 = .ok (.istore_n 1, 1) := by decide +kernel
theorem d_MD_goThrough_13 : decode prog_14_method_16_code 13 = .ok (.aload_n 0, 1) := by decide +kernel
theorem d_MD_goThrough_14 : decode prog_14_method_16_code 14 = .ok (.iconst 0, 1) := by decide +kernel
theorem d_MD_goThrough_15 : decode prog_14_method_16_code 15 = .ok (.putfield 103, 3) := by decide +kernel
theorem d_MD_goThrough_18 : decode prog_14_method_16_code 18 = .ok (.iconst 0, 1) := by decide +kernel
theorem d_MD_goThrough_19 : decode prog_14_method_16_code 19 = .ok (.istore_n 2, 1) := by decide +kernel
theorem d_MD_goThrough_20 : decode prog_14_method_16_code 20 = .ok (.iload_n 2, 1) := by decide +kernel
theorem d_MD_goThrough_21 : decode prog_14_method_16_code 21 = .ok (.aload_n 0, 1) := by decide +kernel
theorem d_MD_goThrough_22 : decode prog_14_method_16_code 22 = .ok (.getfield 7, 3) := by decide +kernel
theorem d_MD_goThrough_25 : decode prog_14_method_16_code 25 = .ok (.if_icmp .ge 181, 3) := by decide +kernel
theorem d_MD_goThrough_28 : decode prog_14_method_16_code 28 = .ok (.aload_n 0, 1) := by decide +kernel
theorem d_MD_goThrough_29 : decode prog_14_method_16_code 29 = .ok (.getfield 24, 3) := by decide +kernel
theorem d_MD_goThrough_32 : decode prog_14_method_16_code 32 = .ok (.iload_n 2, 1) := by decide +kernel
theorem d_MD_goThrough_33 : decode prog_14_method_16_code 33 = .ok (.iaload, 1) := by decide +kernel
theorem d_MD_goThrough_34 : decode prog_14_method_16_code 34 = .ok (.istore_n 3, 1) := by decide +kernel
theorem d_MD_goThrough_35 : decode prog_14_method_16_code 35 = .ok (.aload_n 0, 1) := by decide +kernel
theorem d_MD_goThrough_36 : decode prog_14_method_16_code 36 = .ok (.getfield 42, 3) := by decide +kernel
theorem d_MD_goThrough_39 : decode prog_14_method_16_code 39 = .ok (.iload_n 3, 1) := by decide +kernel
theorem d_MD_goThrough_40 : decode prog_14_method_16_code 40 = .ok (.iload_n 2, 1) := by decide +kernel
theorem d_MD_goThrough_41 : decode prog_14_method_16_code 41 = .ok (.iastore, 1) := by decide +kernel
theorem d_MD_goThrough_42 : decode prog_14_method_16_code 42 = .ok (.iload_n 1, 1) := by decide +kernel
theorem d_MD_goThrough_43 : decode prog_14_method_16_code 43 = .ok (.iconst 1, 1) := by decide +kernel
theorem d_MD_goThrough_44 : decode prog_14_method_16_code 44 = .ok (.iload_n 3, 1) := by decide +kernel
theorem d_MD_goThrough_45 : decode prog_14_method_16_code 45 = .ok (.ishl, 1) := by decide +kernel
theorem d_MD_goThrough_46 : decode prog_14_method_16_code 46 = .ok (.iconst (-1), 1) := by decide +kernel
theorem d_MD_goThrough_47 : decode prog_14_method_16_code 47 = .ok (.ixor, 1) := by decide +kernel
theorem d_MD_goThrough_48 : decode prog_14_method_16_code 48 = .ok (.iand, 1) := by decide +kernel
theorem d_MD_goThrough_49 : decode prog_14_method_16_code 49 = .ok (.istore_n 1, 1) := by decide +kernel
theorem d_MD_goThrough_50 : decode prog_14_method_16_code 50 = .ok (.aload_n 0, 1) := by decide +kernel
theorem d_MD_goThrough_51 : decode prog_14_method_16_code 51 = .ok (.getfield 36, 3) := by decide +kernel
theorem d_MD_goThrough_54 : decode prog_14_method_16_code 54 = .ok (.iload_n 3, 1) := by decide +kernel
theorem d_MD_goThrough_55 : decode prog_14_method_16_code 55 = .ok (.aload_n 0, 1) := by decide +kernel
theorem d_MD_goThrough_56 : decode prog_14_method_16_code 56 = .ok (.getfield 33, 3) := by decide +kernel
theorem d_MD_goThrough_59 : decode prog_14_method_16_code 59 = .ok (.iload_n 3, 1) := by decide +kernel
theorem d_MD_goThrough_60 : decode prog_14_method_16_code 60 = .ok (.iaload, 1) := by decide +kernel
theorem d_MD_goThrough_61 : decode prog_14_method_16_code 61 = .ok (.iload_n 1, 1) := by decide +kernel
theorem d_MD_goThrough_62 : decode prog_14_method_16_code 62 = .ok (.iand, 1) := by decide +kernel
theorem d_MD_goThrough_63 : decode prog_14_method_16_code 63 = .ok (.iastore, 1) := by decide +kernel
theorem d_MD_goThrough_64 : decode prog_14_method_16_code 64 = .ok (.iconst 0, 1) := by decide +kernel
theorem d_MD_goThrough_65 : decode prog_14_method_16_code 65 = .ok (.istore 4, 2) := by decide +kernel
theorem d_MD_goThrough_67 : decode prog_14_method_16_code 67 = .ok (.iload 4, 2) := by decide +kernel
theorem d_MD_goThrough_69 : decode prog_14_method_16_code 69 = .ok (.aload_n 0, 1) := by decide +kernel
theorem d_MD_goThrough_70 : decode prog_14_method_16_code 70 = .ok (.getfield 7, 3) := by decide +kernel
theorem d_MD_goThrough_73 : decode prog_14_method_16_code 73 = .ok (.if_icmp .ge 114, 3) := by decide +kernel
theorem d_MD_goThrough_76 : decode prog_14_method_16_code 76 = .ok (.iload 4, 2) := by decide +kernel
theorem d_MD_goThrough_78 : decode prog_14_method_16_code 78 = .ok (.iconst 1, 1) := by decide +kernel
theorem d_MD_goThrough_79 : decode prog_14_method_16_code 79 = .ok (.iadd, 1) := by decide +kernel
theorem d_MD_goThrough_80 : decode prog_14_method_16_code 80 = .ok (.istore 5, 2) := by decide +kernel
theorem d_MD_goThrough_82 : decode prog_14_method_16_code 82 = .ok (.iload 5, 2) := by decide +kernel
theorem d_MD_goThrough_84 : decode prog_14_method_16_code 84 = .ok (.aload_n 0, 1) := by decide +kernel
theorem d_MD_goThrough_85 : decode prog_14_method_16_code 85 = .ok (.getfield 7, 3) := by decide +kernel
theorem d_MD_goThrough_88 : decode prog_14_method_16_code 88 = .ok (.if_icmp .ge 93, 3) := by decide +kernel
theorem d_MD_goThrough_91 : decode prog_14_method_16_code 91 = .ok (.aload_n 0, 1) := by decide +kernel
theorem d_MD_goThrough_92 : decode prog_14_method_16_code 92 = .ok (.getfield 36, 3) := by decide +kernel
theorem d_MD_goThrough_95 : decode prog_14_method_16_code 95 = .ok (.iload_n 3, 1) := by decide +kernel
theorem d_MD_goThrough_96 : decode prog_14_method_16_code 96 = .ok (.iaload, 1) := by decide +kernel
theorem d_MD_goThrough_97 : decode prog_14_method_16_code 97 = .ok (.iload 4, 2) := by decide +kernel
theorem d_MD_goThrough_99 : decode prog_14_method_16_code 99 = .ok (.ishr, 1) := by decide +kernel
theorem d_MD_goThrough_100 : decode prog_14_method_16_code 100 = .ok (.iconst 1, 1) := by decide +kernel
theorem d_MD_goThrough_101 : decode prog_14_method_16_code 101 = .ok (.iand, 1) := by decide +kernel
theorem d_MD_goThrough_102 : decode prog_14_method_16_code 102 = .ok (.iconst 1, 1) := by decide +kernel
theorem d_MD_goThrough_103 : decode prog_14_method_16_code 103 = .ok (.if_icmp .ne 22, 3) := by decide +kernel
theorem d_MD_goThrough_106 : decode prog_14_method_16_code 106 = .ok (.aload_n 0, 1) := by decide +kernel
theorem d_MD_goThrough_107 : decode prog_14_method_16_code 107 = .ok (.getfield 36, 3) := by decide +kernel
theorem d_MD_goThrough_110 : decode prog_14_method_16_code 110 = .ok (.iload_n 3, 1) := by decide +kernel
theorem d_MD_goThrough_111 : decode prog_14_method_16_code 111 = .ok (.iaload, 1) := by decide +kernel
theorem d_MD_goThrough_112 : decode prog_14_method_16_code 112 = .ok (.iload 5, 2) := by decide +kernel
theorem d_MD_goThrough_114 : decode prog_14_method_16_code 114 = .ok (.ishr, 1) := by decide +kernel
theorem d_MD_goThrough_115 : decode prog_14_method_16_code 115 = .ok (.iconst 1, 1) := by decide +kernel
theorem d_MD_goThrough_116 : decode prog_14_method_16_code 116 = .ok (.iand, 1) := by decide +kernel
theorem d_MD_goThrough_117 : decode prog_14_method_16_code 117 = .ok (.iconst 1, 1) := by decide +kernel
theorem d_MD_goThrough_118 : decode prog_14_method_16_code 118 = .ok (.if_icmp .ne 7, 3) := by decide +kernel
theorem d_MD_goThrough_121 : decode prog_14_method_16_code 121 = .ok (.iconst 1, 1) := by decide +kernel
theorem d_MD_goThrough_122 : decode prog_14_method_16_code 122 = .ok (.goto 4, 3) := by decide +kernel
theorem d_MD_goThrough_125 : decode prog_14_method_16_code 125 = .ok (.iconst 0, 1) := by decide +kernel
theorem d_MD_goThrough_126 : decode prog_14_method_16_code 126 = .ok (.istore 6, 2) := by decide +kernel
theorem d_MD_goThrough_128 : decode prog_14_method_16_code 128 = .ok (.iload 6, 2) := by decide +kernel
theorem d_MD_goThrough_130 : decode prog_14_method_16_code 130 = .ok (.ifCond .eq 45, 3) := by decide +kernel
theorem d_MD_goThrough_133 : decode prog_14_method_16_code 133 = .ok (.aload_n 0, 1) := by decide +kernel
theorem d_MD_goThrough_134 : decode prog_14_method_16_code 134 = .ok (.getfield 33, 3) := by decide +kernel
theorem d_MD_goThrough_137 : decode prog_14_method_16_code 137 = .ok (.iload 4, 2) := by decide +kernel
theorem d_MD_goThrough_139 : decode prog_14_method_16_code 139 = .ok (.iaload, 1) := by decide +kernel
theorem d_MD_goThrough_140 : decode prog_14_method_16_code 140 = .ok (.iload 5, 2) := by decide +kernel
theorem d_MD_goThrough_142 : decode prog_14_method_16_code 142 = .ok (.ishr, 1) := by decide +kernel
theorem d_MD_goThrough_143 : decode prog_14_method_16_code 143 = .ok (.iconst 1, 1) := by decide +kernel
theorem d_MD_goThrough_144 : decode prog_14_method_16_code 144 = .ok (.iand, 1) := by decide +kernel
theorem d_MD_goThrough_145 : decode prog_14_method_16_code 145 = .ok (.ifCond .ne 30, 3) := by decide +kernel
theorem d_MD_goThrough_148 : decode prog_14_method_16_code 148 = .ok (.aload_n 0, 1) := by decide +kernel
theorem d_MD_goThrough_149 : decode prog_14_method_16_code 149 = .ok (.getfield 39, 3) := by decide +kernel
theorem d_MD_goThrough_152 : decode prog_14_method_16_code 152 = .ok (.aload_n 0, 1) := by decide +kernel
theorem d_MD_goThrough_153 : decode prog_14_method_16_code 153 = .ok (.getfield 103, 3) := by decide +kernel
theorem d_MD_goThrough_156 : decode prog_14_method_16_code 156 = .ok (.bipush 32, 2) := by decide +kernel
theorem d_MD_goThrough_158 : decode prog_14_method_16_code 158 = .ok (.iload 4, 2) := by decide +kernel
theorem d_MD_goThrough_160 : decode prog_14_method_16_code 160 = .ok (.imul, 1) := by decide +kernel
theorem d_MD_goThrough_161 : decode prog_14_method_16_code 161 = .ok (.iload 5, 2) := by decide +kernel
theorem d_MD_goThrough_163 : decode prog_14_method_16_code 163 = .ok (.iadd, 1) := by decide +kernel
theorem d_MD_goThrough_164 : decode prog_14_method_16_code 164 = .ok (.iastore, 1) := by decide +kernel
theorem d_MD_goThrough_165 : decode prog_14_method_16_code 165 = .ok (.aload_n 0, 1) := by decide +kernel
theorem d_MD_goThrough_166 : decode prog_14_method_16_code 166 = .ok (.dup, 1) := by decide +kernel
theorem d_MD_goThrough_167 : decode prog_14_method_16_code 167 = .ok (.getfield 103, 3) := by decide +kernel
theorem d_MD_goThrough_170 : decode prog_14_method_16_code 170 = .ok (.iconst 1, 1) := by decide +kernel
theorem d_MD_goThrough_171 : decode prog_14_method_16_code 171 = .ok (.iadd, 1) := by decide +kernel
theorem d_MD_goThrough_172 : decode prog_14_method_16_code 172 = .ok (.putfield 103, 3) := by decide +kernel
theorem d_MD_goThrough_175 : decode prog_14_method_16_code 175 = .ok (.iinc 5 1, 3) := by decide +kernel
theorem d_MD_goThrough_178 : decode prog_14_method_16_code 178 = .ok (.goto (-96), 3) := by decide +kernel
theorem d_MD_goThrough_181 : decode prog_14_method_16_code 181 = .ok (.iinc 4 1, 3) := by decide +kernel
theorem d_MD_goThrough_184 : decode prog_14_method_16_code 184 = .ok (.goto (-117), 3) := by decide +kernel
theorem d_MD_goThrough_187 : decode prog_14_method_16_code 187 = .ok (.aload_n 0, 1) := by decide +kernel
theorem d_MD_goThrough_188 : decode prog_14_method_16_code 188 = .ok (.getfield 33, 3) := by decide +kernel
theorem d_MD_goThrough_191 : decode prog_14_method_16_code 191 = .ok (.aload_n 0, 1) := by decide +kernel
theorem d_MD_goThrough_192 : decode prog_14_method_16_code 192 = .ok (.getfield 36, 3) := by decide +kernel
theorem d_MD_goThrough_195 : decode prog_14_method_16_code 195 = .ok (.iload_n 3, 1) := by decide +kernel
theorem d_MD_goThrough_196 : decode prog_14_method_16_code 196 = .ok (.iaload, 1) := by decide +kernel
theorem d_MD_goThrough_197 : decode prog_14_method_16_code 197 = .ok (.invokestatic 106, 3) := by decide +kernel
theorem d_MD_goThrough_200 : decode prog_14_method_16_code 200 = .ok (.iinc 2 1, 3) := by decide +kernel
theorem d_MD_goThrough_203 : decode prog_14_method_16_code 203 = .ok (.goto (-183), 3) := by decide +kernel
theorem d_MD_goThrough_206 : decode prog_14_method_16_code 206 = .ok (.return_, 1) := by decide +kernel
def MD_goThrough_126 (h0 : Nat) (v1 : Int32) (v2 : Int32) (v3 : Int32) (v4 : Int32) (v5 : Int32) (s0 : Int32) (I : jM) (K : jM → Prop) (X20 : Int32 × Int32 × jM → Prop) (X67 : Int32 × jM → Prop) (X82 : Int32 × jM → Prop) : Prop :=
  ((s0 = 0 → X82 ((v5 + 1), I)) ∧ (¬ s0 = 0 → (vp_in v4 24 ∧ ((¬ (((I (jr h0 7) v4.toNatClampNeg) >>> (v5 &&& 31)) &&& (1 : Int32)) = 0 → X82 ((v5 + 1), I)) ∧ ((((I (jr h0 7) v4.toNatClampNeg) >>> (v5 &&& 31)) &&& (1 : Int32)) = 0 → (vp_in (I h0 10) 300 ∧ (∀ I_1 : jM, I_1 = jwr I (jr h0 9) (I h0 10).toNatClampNeg (((32 : Int32) * v4) + v5) → (∀ I_2 : jM, I_2 = jwr I_1 h0 10 ((I_1 h0 10) + (1 : Int32)) → X82 ((v5 + 1), I_2)))))))))
set_option maxRecDepth 100000 in
set_option maxHeartbeats 4000000 in
theorem k_MD_goThrough_126 {Z : jZ} {E : jE} (C : jC Z E prog_14_method_16_code 7 "OutOrderModel" 1 22) (hr : (jZh Z).sig.returnType = none) (hE : E.2.2.2 = jLM)  (h0 : Nat) (v1 : Int32) (v2 : Int32) (v3 : Int32) (v4 : Int32) (v5 : Int32) (s0 : Int32) (I : jM) (g_h0 : jOB E 11 h0) {K : jM → Prop} {X20 : Int32 × Int32 × jM → Prop} {X67 : Int32 × jM → Prop} {X82 : Int32 × jM → Prop} (hX20 : ∀ s : Int32 × Int32 × jM, X20 s → jJ Z E 7 (jQv Z E K) 20 [(0, .ref (E.2.2.1 h0)), (1, .int s.1), (2, .int s.2.1)] [] s.2.2) (hX67 : ∀ s : Int32 × jM, X67 s → jJ Z E 7 (jQv Z E K) 67 [(0, .ref (E.2.2.1 h0)), (1, .int v1), (2, .int v2), (3, .int v3), (4, .int s.1)] [] s.2) (hX82 : ∀ s : Int32 × jM, X82 s → jJ Z E 7 (jQv Z E K) 82 [(0, .ref (E.2.2.1 h0)), (1, .int v1), (2, .int v2), (3, .int v3), (4, .int v4), (5, .int s.1)] [] s.2) (h : MD_goThrough_126 h0 v1 v2 v3 v4 v5 s0 I K X20 X67 X82) : jJ Z E 7 (jQv Z E K) 126 [(0, .ref (E.2.2.1 h0)), (1, .int v1), (2, .int v2), (3, .int v3), (4, .int v4), (5, .int v5)] [.int s0] I := by
  unfold MD_goThrough_126 at h
  refine j_istore C d_MD_goThrough_126 (by decide) (lv' := [(6, .int s0), (0, .ref (E.2.2.1 h0)), (1, .int v1), (2, .int v2), (3, .int v3), (4, .int v4), (5, .int v5)]) rfl ?_
  refine j_iload C d_MD_goThrough_128 0 rfl ?_
  refine j_if_eq C d_MD_goThrough_130 (tgt := 175) (by decide) (fun c130 => ?_) (fun c130 => ?_)
  · have h := h.1 c130
    refine j_iinc C d_MD_goThrough_175 6 rfl (v := (v5 + 1)) rfl (by decide) (lv' := [(5, .int (v5 + 1)), (6, .int s0), (0, .ref (E.2.2.1 h0)), (1, .int v1), (2, .int v2), (3, .int v3), (4, .int v4)]) rfl ?_
    refine j_goto C d_MD_goThrough_178 (tgt := 82) (by decide) ?_
    refine j_lv [2, 3, 4, 5, 6, 0] rfl ?_
    exact hX82 ((v5 + 1), I) h
  · have h := h.2 c130
    refine j_aload_n C d_MD_goThrough_133 rfl 1 rfl ?_
    refine fg_MD_33 C g_h0 d_MD_goThrough_134 ?_
    refine j_iload C d_MD_goThrough_137 5 rfl ?_
    obtain ⟨hi, h⟩ := h
    refine j_iaload C (sh_MD_7 hE g_h0) hi d_MD_goThrough_139 ?_
    refine j_iload C d_MD_goThrough_140 6 rfl ?_
    refine j_ishr C d_MD_goThrough_142 ?_
    refine j_iconst C d_MD_goThrough_143 ic_1 ?_
    refine j_iand C d_MD_goThrough_144 ?_
    refine j_if_ne C d_MD_goThrough_145 (tgt := 175) (by decide) (fun c145 => ?_) (fun c145 => ?_)
    · have h := h.1 c145
      refine j_iinc C d_MD_goThrough_175 6 rfl (v := (v5 + 1)) rfl (by decide) (lv' := [(5, .int (v5 + 1)), (6, .int s0), (0, .ref (E.2.2.1 h0)), (1, .int v1), (2, .int v2), (3, .int v3), (4, .int v4)]) rfl ?_
      refine j_goto C d_MD_goThrough_178 (tgt := 82) (by decide) ?_
      refine j_lv [2, 3, 4, 5, 6, 0] rfl ?_
      exact hX82 ((v5 + 1), I) h
    · have h := h.2 c145
      refine j_aload_n C d_MD_goThrough_148 rfl 1 rfl ?_
      refine fg_MD_39 C g_h0 d_MD_goThrough_149 ?_
      refine j_aload_n C d_MD_goThrough_152 rfl 1 rfl ?_
      refine fg_MD_103 C g_h0 d_MD_goThrough_153 ?_
      refine j_bipush C d_MD_goThrough_156 ib_32 ?_
      refine j_iload C d_MD_goThrough_158 5 rfl ?_
      refine j_imul C d_MD_goThrough_160 ?_
      refine j_iload C d_MD_goThrough_161 6 rfl ?_
      refine j_iadd C d_MD_goThrough_163 ?_
      obtain ⟨hi, h⟩ := h
      refine j_iastore C (sh_MD_9 hE g_h0) hi d_MD_goThrough_164 ?_
      have h := h _ rfl
      generalize eI_1 : (jwr I (jr h0 9) (I h0 10).toNatClampNeg (((32 : Int32) * v4) + v5) : jM) = I_1 at h ⊢
      refine j_aload_n C d_MD_goThrough_165 rfl 1 rfl ?_
      refine j_dup C d_MD_goThrough_166 rfl ?_
      refine fg_MD_103 C g_h0 d_MD_goThrough_167 ?_
      refine j_iconst C d_MD_goThrough_170 ic_1 ?_
      refine j_iadd C d_MD_goThrough_171 ?_
      refine fp_MD_103 C g_h0 d_MD_goThrough_172 ?_
      have h := h _ rfl
      generalize eI_2 : (jwr I_1 h0 10 ((I_1 h0 10) + (1 : Int32)) : jM) = I_2 at h ⊢
      refine j_iinc C d_MD_goThrough_175 6 rfl (v := (v5 + 1)) rfl (by decide) (lv' := [(5, .int (v5 + 1)), (6, .int s0), (0, .ref (E.2.2.1 h0)), (1, .int v1), (2, .int v2), (3, .int v3), (4, .int v4)]) rfl ?_
      refine j_goto C d_MD_goThrough_178 (tgt := 82) (by decide) ?_
      refine j_lv [2, 3, 4, 5, 6, 0] rfl ?_
      exact hX82 ((v5 + 1), I_2) h
def MD_goThrough_82b (h0 : Nat) (v1 : Int32) (v2 : Int32) (v3 : Int32) (v4 : Int32) (v5 : Int32) (I : jM) (K : jM → Prop) (X20 : Int32 × Int32 × jM → Prop) (X67 : Int32 × jM → Prop) (X82 : Int32 × jM → Prop) : Prop :=
  (((I h0 0) ≤ v5 → X67 ((v4 + 1), I)) ∧ (¬ (I h0 0) ≤ v5 → (vp_in v3 24 ∧ ((¬ (((I (jr h0 8) v3.toNatClampNeg) >>> (v4 &&& 31)) &&& (1 : Int32)) = (1 : Int32) → MD_goThrough_126 h0 v1 v2 v3 v4 v5 (0 : Int32) I K X20 X67 X82) ∧ ((((I (jr h0 8) v3.toNatClampNeg) >>> (v4 &&& 31)) &&& (1 : Int32)) = (1 : Int32) → (vp_in v3 24 ∧ ((¬ (((I (jr h0 8) v3.toNatClampNeg) >>> (v5 &&& 31)) &&& (1 : Int32)) = (1 : Int32) → MD_goThrough_126 h0 v1 v2 v3 v4 v5 (0 : Int32) I K X20 X67 X82) ∧ ((((I (jr h0 8) v3.toNatClampNeg) >>> (v5 &&& 31)) &&& (1 : Int32)) = (1 : Int32) → MD_goThrough_126 h0 v1 v2 v3 v4 v5 (1 : Int32) I K X20 X67 X82))))))))
def MD_goThrough_82 (h0 : Nat) (v1 : Int32) (v2 : Int32) (v3 : Int32) (v4 : Int32) (v5 : Int32) (I : jM) (K : jM → Prop) (X20 : Int32 × Int32 × jM → Prop) (X67 : Int32 × jM → Prop) : Prop :=
  lp (fun (X82 : Int32 × jM → Prop) (s : Int32 × jM) => MD_goThrough_82b h0 v1 v2 v3 v4 s.1 s.2 K X20 X67 X82) (v5, I)
set_option maxRecDepth 100000 in
set_option maxHeartbeats 4000000 in
theorem kb_MD_goThrough_82 {Z : jZ} {E : jE} (C : jC Z E prog_14_method_16_code 7 "OutOrderModel" 1 22) (hr : (jZh Z).sig.returnType = none) (hE : E.2.2.2 = jLM)  (h0 : Nat) (v1 : Int32) (v2 : Int32) (v3 : Int32) (v4 : Int32) (v5 : Int32) (I : jM) (g_h0 : jOB E 11 h0) {K : jM → Prop} {X20 : Int32 × Int32 × jM → Prop} {X67 : Int32 × jM → Prop} (hX20 : ∀ s : Int32 × Int32 × jM, X20 s → jJ Z E 7 (jQv Z E K) 20 [(0, .ref (E.2.2.1 h0)), (1, .int s.1), (2, .int s.2.1)] [] s.2.2) (hX67 : ∀ s : Int32 × jM, X67 s → jJ Z E 7 (jQv Z E K) 67 [(0, .ref (E.2.2.1 h0)), (1, .int v1), (2, .int v2), (3, .int v3), (4, .int s.1)] [] s.2) {X82 : Int32 × jM → Prop} (hX82 : ∀ s : Int32 × jM, X82 s → jJ Z E 7 (jQv Z E K) 82 [(0, .ref (E.2.2.1 h0)), (1, .int v1), (2, .int v2), (3, .int v3), (4, .int v4), (5, .int s.1)] [] s.2) (h : MD_goThrough_82b h0 v1 v2 v3 v4 v5 I K X20 X67 X82) : jJ Z E 7 (jQv Z E K) 82 [(0, .ref (E.2.2.1 h0)), (1, .int v1), (2, .int v2), (3, .int v3), (4, .int v4), (5, .int v5)] [] I := by
  unfold MD_goThrough_82b at h
  refine j_iload C d_MD_goThrough_82 5 rfl ?_
  refine j_aload_n C d_MD_goThrough_84 rfl 0 rfl ?_
  refine fg_MD_7 C g_h0 d_MD_goThrough_85 ?_
  refine j_icmp_ge C d_MD_goThrough_88 (tgt := 181) (by decide) (fun c88 => ?_) (fun c88 => ?_)
  · have h := h.1 c88
    refine j_iinc C d_MD_goThrough_181 4 rfl (v := (v4 + 1)) rfl (by decide) (lv' := [(4, .int (v4 + 1)), (0, .ref (E.2.2.1 h0)), (1, .int v1), (2, .int v2), (3, .int v3), (5, .int v5)]) rfl ?_
    refine j_goto C d_MD_goThrough_184 (tgt := 67) (by decide) ?_
    refine j_lv [1, 2, 3, 4, 0] rfl ?_
    exact hX67 ((v4 + 1), I) h
  · have h := h.2 c88
    refine j_aload_n C d_MD_goThrough_91 rfl 0 rfl ?_
    refine fg_MD_36 C g_h0 d_MD_goThrough_92 ?_
    refine j_iload_n C d_MD_goThrough_95 rfl 3 rfl ?_
    obtain ⟨hi, h⟩ := h
    refine j_iaload C (sh_MD_8 hE g_h0) hi d_MD_goThrough_96 ?_
    refine j_iload C d_MD_goThrough_97 4 rfl ?_
    refine j_ishr C d_MD_goThrough_99 ?_
    refine j_iconst C d_MD_goThrough_100 ic_1 ?_
    refine j_iand C d_MD_goThrough_101 ?_
    refine j_iconst C d_MD_goThrough_102 ic_1 ?_
    refine j_icmp_ne C d_MD_goThrough_103 (tgt := 125) (by decide) (fun c103 => ?_) (fun c103 => ?_)
    · have h := h.1 c103
      refine j_iconst C d_MD_goThrough_125 ic_0 ?_
      refine j_lv [0, 1, 2, 3, 4, 5] rfl ?_
      exact k_MD_goThrough_126 C hr hE h0 v1 v2 v3 v4 v5 (0 : Int32) I g_h0 hX20 hX67 hX82 h
    · have h := h.2 c103
      refine j_aload_n C d_MD_goThrough_106 rfl 0 rfl ?_
      refine fg_MD_36 C g_h0 d_MD_goThrough_107 ?_
      refine j_iload_n C d_MD_goThrough_110 rfl 3 rfl ?_
      obtain ⟨hi, h⟩ := h
      refine j_iaload C (sh_MD_8 hE g_h0) hi d_MD_goThrough_111 ?_
      refine j_iload C d_MD_goThrough_112 5 rfl ?_
      refine j_ishr C d_MD_goThrough_114 ?_
      refine j_iconst C d_MD_goThrough_115 ic_1 ?_
      refine j_iand C d_MD_goThrough_116 ?_
      refine j_iconst C d_MD_goThrough_117 ic_1 ?_
      refine j_icmp_ne C d_MD_goThrough_118 (tgt := 125) (by decide) (fun c118 => ?_) (fun c118 => ?_)
      · have h := h.1 c118
        refine j_iconst C d_MD_goThrough_125 ic_0 ?_
        refine j_lv [0, 1, 2, 3, 4, 5] rfl ?_
        exact k_MD_goThrough_126 C hr hE h0 v1 v2 v3 v4 v5 (0 : Int32) I g_h0 hX20 hX67 hX82 h
      · have h := h.2 c118
        refine j_iconst C d_MD_goThrough_121 ic_1 ?_
        refine j_goto C d_MD_goThrough_122 (tgt := 126) (by decide) ?_
        refine j_lv [0, 1, 2, 3, 4, 5] rfl ?_
        exact k_MD_goThrough_126 C hr hE h0 v1 v2 v3 v4 v5 (1 : Int32) I g_h0 hX20 hX67 hX82 h
theorem k_MD_goThrough_82 {Z : jZ} {E : jE} (C : jC Z E prog_14_method_16_code 7 "OutOrderModel" 1 22) (hr : (jZh Z).sig.returnType = none) (hE : E.2.2.2 = jLM)  (h0 : Nat) (v1 : Int32) (v2 : Int32) (v3 : Int32) (v4 : Int32) (v5 : Int32) (I : jM) (g_h0 : jOB E 11 h0) {K : jM → Prop} {X20 : Int32 × Int32 × jM → Prop} {X67 : Int32 × jM → Prop} (hX20 : ∀ s : Int32 × Int32 × jM, X20 s → jJ Z E 7 (jQv Z E K) 20 [(0, .ref (E.2.2.1 h0)), (1, .int s.1), (2, .int s.2.1)] [] s.2.2) (hX67 : ∀ s : Int32 × jM, X67 s → jJ Z E 7 (jQv Z E K) 67 [(0, .ref (E.2.2.1 h0)), (1, .int v1), (2, .int v2), (3, .int v3), (4, .int s.1)] [] s.2) (h : MD_goThrough_82 h0 v1 v2 v3 v4 v5 I K X20 X67) : jJ Z E 7 (jQv Z E K) 82 [(0, .ref (E.2.2.1 h0)), (1, .int v1), (2, .int v2), (3, .int v3), (4, .int v4), (5, .int v5)] [] I := by
  unfold MD_goThrough_82 at h
  exact h (fun s => jJ Z E 7 (jQv Z E K) 82 [(0, .ref (E.2.2.1 h0)), (1, .int v1), (2, .int v2), (3, .int v3), (4, .int v4), (5, .int s.1)] [] s.2) (fun s hs => kb_MD_goThrough_82 C hr hE h0 v1 v2 v3 v4 s.1 s.2 g_h0 hX20 hX67 (fun s2 h2 => h2) hs)
def MD_goThrough_67b (h0 : Nat) (v1 : Int32) (v2 : Int32) (v3 : Int32) (v4 : Int32) (I : jM) (K : jM → Prop) (X20 : Int32 × Int32 × jM → Prop) (X67 : Int32 × jM → Prop) : Prop :=
  (((I h0 0) ≤ v4 → (vp_in v3 24 ∧ MD_joinAll (jr h0 7) (I (jr h0 8) v3.toNatClampNeg) I (fun I_2 => X20 (v1, (v2 + 1), I_2)))) ∧ (¬ (I h0 0) ≤ v4 → (∀ v5_3 : Int32, v5_3 = (v4 + (1 : Int32)) → MD_goThrough_82 h0 v1 v2 v3 v4 v5_3 I K X20 X67)))
def MD_goThrough_67 (h0 : Nat) (v1 : Int32) (v2 : Int32) (v3 : Int32) (v4 : Int32) (I : jM) (K : jM → Prop) (X20 : Int32 × Int32 × jM → Prop) : Prop :=
  lp (fun (X67 : Int32 × jM → Prop) (s : Int32 × jM) => MD_goThrough_67b h0 v1 v2 v3 s.1 s.2 K X20 X67) (v4, I)
set_option maxRecDepth 100000 in
set_option maxHeartbeats 4000000 in
theorem kb_MD_goThrough_67 {Z : jZ} {E : jE} (C : jC Z E prog_14_method_16_code 7 "OutOrderModel" 1 22) (hr : (jZh Z).sig.returnType = none) (hE : E.2.2.2 = jLM)  (h0 : Nat) (v1 : Int32) (v2 : Int32) (v3 : Int32) (v4 : Int32) (I : jM) (g_h0 : jOB E 11 h0) {K : jM → Prop} {X20 : Int32 × Int32 × jM → Prop} (hX20 : ∀ s : Int32 × Int32 × jM, X20 s → jJ Z E 7 (jQv Z E K) 20 [(0, .ref (E.2.2.1 h0)), (1, .int s.1), (2, .int s.2.1)] [] s.2.2) {X67 : Int32 × jM → Prop} (hX67 : ∀ s : Int32 × jM, X67 s → jJ Z E 7 (jQv Z E K) 67 [(0, .ref (E.2.2.1 h0)), (1, .int v1), (2, .int v2), (3, .int v3), (4, .int s.1)] [] s.2) (h : MD_goThrough_67b h0 v1 v2 v3 v4 I K X20 X67) : jJ Z E 7 (jQv Z E K) 67 [(0, .ref (E.2.2.1 h0)), (1, .int v1), (2, .int v2), (3, .int v3), (4, .int v4)] [] I := by
  unfold MD_goThrough_67b at h
  refine j_iload C d_MD_goThrough_67 4 rfl ?_
  refine j_aload_n C d_MD_goThrough_69 rfl 0 rfl ?_
  refine fg_MD_7 C g_h0 d_MD_goThrough_70 ?_
  refine j_icmp_ge C d_MD_goThrough_73 (tgt := 187) (by decide) (fun c73 => ?_) (fun c73 => ?_)
  · have h := h.1 c73
    refine j_aload_n C d_MD_goThrough_187 rfl 0 rfl ?_
    refine fg_MD_33 C g_h0 d_MD_goThrough_188 ?_
    refine j_aload_n C d_MD_goThrough_191 rfl 0 rfl ?_
    refine fg_MD_36 C g_h0 d_MD_goThrough_192 ?_
    refine j_iload_n C d_MD_goThrough_195 rfl 3 rfl ?_
    obtain ⟨hi, h⟩ := h
    refine j_iaload C (sh_MD_8 hE g_h0) hi d_MD_goThrough_196 ?_
    refine j_callSv (As := [.ref (E.2.2.1 (jr h0 7)), .int (I (jr h0 8) v3.toNatClampNeg)]) C cw_MD_106 w_869 rfl rfl (by decide) (by decide) (Nat.le_of_ble_eq_true rfl) d_MD_goThrough_197 (s_MD_joinAll C.ok (((sh_MD_7 hE g_h0)).self) h) (fun I_2 h => ?_)
    refine j_iinc C d_MD_goThrough_200 2 rfl (v := (v2 + 1)) rfl (by decide) (lv' := [(2, .int (v2 + 1)), (0, .ref (E.2.2.1 h0)), (1, .int v1), (3, .int v3), (4, .int v4)]) rfl ?_
    refine j_goto C d_MD_goThrough_203 (tgt := 20) (by decide) ?_
    refine j_lv [1, 2, 0] rfl ?_
    exact hX20 (v1, (v2 + 1), I_2) h
  · have h := h.2 c73
    refine j_iload C d_MD_goThrough_76 4 rfl ?_
    refine j_iconst C d_MD_goThrough_78 ic_1 ?_
    refine j_iadd C d_MD_goThrough_79 ?_
    refine j_topi (fun v5_3 ev5_3 => ?_)
    have h := h v5_3 ev5_3
    refine j_istore C d_MD_goThrough_80 (by decide) (lv' := [(5, .int v5_3), (0, .ref (E.2.2.1 h0)), (1, .int v1), (2, .int v2), (3, .int v3), (4, .int v4)]) rfl ?_
    refine j_lv [1, 2, 3, 4, 5, 0] rfl ?_
    exact k_MD_goThrough_82 C hr hE h0 v1 v2 v3 v4 v5_3 I g_h0 hX20 hX67 h
theorem k_MD_goThrough_67 {Z : jZ} {E : jE} (C : jC Z E prog_14_method_16_code 7 "OutOrderModel" 1 22) (hr : (jZh Z).sig.returnType = none) (hE : E.2.2.2 = jLM)  (h0 : Nat) (v1 : Int32) (v2 : Int32) (v3 : Int32) (v4 : Int32) (I : jM) (g_h0 : jOB E 11 h0) {K : jM → Prop} {X20 : Int32 × Int32 × jM → Prop} (hX20 : ∀ s : Int32 × Int32 × jM, X20 s → jJ Z E 7 (jQv Z E K) 20 [(0, .ref (E.2.2.1 h0)), (1, .int s.1), (2, .int s.2.1)] [] s.2.2) (h : MD_goThrough_67 h0 v1 v2 v3 v4 I K X20) : jJ Z E 7 (jQv Z E K) 67 [(0, .ref (E.2.2.1 h0)), (1, .int v1), (2, .int v2), (3, .int v3), (4, .int v4)] [] I := by
  unfold MD_goThrough_67 at h
  exact h (fun s => jJ Z E 7 (jQv Z E K) 67 [(0, .ref (E.2.2.1 h0)), (1, .int v1), (2, .int v2), (3, .int v3), (4, .int s.1)] [] s.2) (fun s hs => kb_MD_goThrough_67 C hr hE h0 v1 v2 v3 s.1 s.2 g_h0 hX20 (fun s2 h2 => h2) hs)
def MD_goThrough_20b (h0 : Nat) (v1 : Int32) (v2 : Int32) (I : jM) (K : jM → Prop) (X20 : Int32 × Int32 × jM → Prop) : Prop :=
  (((I h0 0) ≤ v2 → K I) ∧ (¬ (I h0 0) ≤ v2 → (vp_in v2 24 ∧ (∀ v3_1 : Int32, v3_1 = (I (jr h0 4) v2.toNatClampNeg) → (vp_in v3_1 24 ∧ (∀ I_2 : jM, I_2 = jwr I (jr h0 11) v3_1.toNatClampNeg v2 → (∀ v1_3 : Int32, v1_3 = (v1 &&& (((1 : Int32) <<< (v3_1 &&& 31)) ^^^ (-1 : Int32))) → (vp_in v3_1 24 ∧ (vp_in v3_1 24 ∧ (∀ I_4 : jM, I_4 = jwr I_2 (jr h0 8) v3_1.toNatClampNeg ((I_2 (jr h0 7) v3_1.toNatClampNeg) &&& v1_3) → MD_goThrough_67 h0 v1_3 v2 v3_1 (0 : Int32) I_4 K X20))))))))))
def MD_goThrough_20 (h0 : Nat) (v1 : Int32) (v2 : Int32) (I : jM) (K : jM → Prop) : Prop :=
  lp (fun (X20 : Int32 × Int32 × jM → Prop) (s : Int32 × Int32 × jM) => MD_goThrough_20b h0 s.1 s.2.1 s.2.2 K X20) (v1, v2, I)
set_option maxRecDepth 100000 in
set_option maxHeartbeats 4000000 in
theorem kb_MD_goThrough_20 {Z : jZ} {E : jE} (C : jC Z E prog_14_method_16_code 7 "OutOrderModel" 1 22) (hr : (jZh Z).sig.returnType = none) (hE : E.2.2.2 = jLM)  (h0 : Nat) (v1 : Int32) (v2 : Int32) (I : jM) (g_h0 : jOB E 11 h0) {K : jM → Prop} {X20 : Int32 × Int32 × jM → Prop} (hX20 : ∀ s : Int32 × Int32 × jM, X20 s → jJ Z E 7 (jQv Z E K) 20 [(0, .ref (E.2.2.1 h0)), (1, .int s.1), (2, .int s.2.1)] [] s.2.2) (h : MD_goThrough_20b h0 v1 v2 I K X20) : jJ Z E 7 (jQv Z E K) 20 [(0, .ref (E.2.2.1 h0)), (1, .int v1), (2, .int v2)] [] I := by
  unfold MD_goThrough_20b at h
  refine j_iload_n C d_MD_goThrough_20 rfl 2 rfl ?_
  refine j_aload_n C d_MD_goThrough_21 rfl 0 rfl ?_
  refine fg_MD_7 C g_h0 d_MD_goThrough_22 ?_
  refine j_icmp_ge C d_MD_goThrough_25 (tgt := 206) (by decide) (fun c25 => ?_) (fun c25 => ?_)
  · have h := h.1 c25
    exact j_vret C hr d_MD_goThrough_206 h
  · have h := h.2 c25
    refine j_aload_n C d_MD_goThrough_28 rfl 0 rfl ?_
    refine fg_MD_24 C g_h0 d_MD_goThrough_29 ?_
    refine j_iload_n C d_MD_goThrough_32 rfl 2 rfl ?_
    obtain ⟨hi, h⟩ := h
    refine j_iaload C (sh_MD_4 hE g_h0) hi d_MD_goThrough_33 ?_
    refine j_topi (fun v3_1 ev3_1 => ?_)
    have h := h v3_1 ev3_1
    refine j_istore_n C d_MD_goThrough_34 rfl (by decide) (lv' := [(3, .int v3_1), (0, .ref (E.2.2.1 h0)), (1, .int v1), (2, .int v2)]) rfl ?_
    refine j_aload_n C d_MD_goThrough_35 rfl 1 rfl ?_
    refine fg_MD_42 C g_h0 d_MD_goThrough_36 ?_
    refine j_iload_n C d_MD_goThrough_39 rfl 0 rfl ?_
    refine j_iload_n C d_MD_goThrough_40 rfl 3 rfl ?_
    obtain ⟨hi, h⟩ := h
    refine j_iastore C (sh_MD_11 hE g_h0) hi d_MD_goThrough_41 ?_
    have h := h _ rfl
    generalize eI_2 : (jwr I (jr h0 11) v3_1.toNatClampNeg v2 : jM) = I_2 at h ⊢
    refine j_iload_n C d_MD_goThrough_42 rfl 2 rfl ?_
    refine j_iconst C d_MD_goThrough_43 ic_1 ?_
    refine j_iload_n C d_MD_goThrough_44 rfl 0 rfl ?_
    refine j_ishl C d_MD_goThrough_45 ?_
    refine j_iconst C d_MD_goThrough_46 ic_m1 ?_
    refine j_ixor C d_MD_goThrough_47 ?_
    refine j_iand C d_MD_goThrough_48 ?_
    refine j_topi (fun v1_3 ev1_3 => ?_)
    have h := h v1_3 ev1_3
    refine j_istore_n C d_MD_goThrough_49 rfl (by decide) (lv' := [(1, .int v1_3), (3, .int v3_1), (0, .ref (E.2.2.1 h0)), (2, .int v2)]) rfl ?_
    refine j_aload_n C d_MD_goThrough_50 rfl 2 rfl ?_
    refine fg_MD_36 C g_h0 d_MD_goThrough_51 ?_
    refine j_iload_n C d_MD_goThrough_54 rfl 1 rfl ?_
    refine j_aload_n C d_MD_goThrough_55 rfl 2 rfl ?_
    refine fg_MD_33 C g_h0 d_MD_goThrough_56 ?_
    refine j_iload_n C d_MD_goThrough_59 rfl 1 rfl ?_
    obtain ⟨hi, h⟩ := h
    refine j_iaload C (sh_MD_7 hE g_h0) hi d_MD_goThrough_60 ?_
    refine j_iload_n C d_MD_goThrough_61 rfl 0 rfl ?_
    refine j_iand C d_MD_goThrough_62 ?_
    obtain ⟨hi, h⟩ := h
    refine j_iastore C (sh_MD_8 hE g_h0) hi d_MD_goThrough_63 ?_
    have h := h _ rfl
    generalize eI_4 : (jwr I_2 (jr h0 8) v3_1.toNatClampNeg ((I_2 (jr h0 7) v3_1.toNatClampNeg) &&& v1_3) : jM) = I_4 at h ⊢
    refine j_iconst C d_MD_goThrough_64 ic_0 ?_
    refine j_istore C d_MD_goThrough_65 (by decide) (lv' := [(4, .int (0 : Int32)), (1, .int v1_3), (3, .int v3_1), (0, .ref (E.2.2.1 h0)), (2, .int v2)]) rfl ?_
    refine j_lv [3, 1, 4, 2, 0] rfl ?_
    exact k_MD_goThrough_67 C hr hE h0 v1_3 v2 v3_1 (0 : Int32) I_4 g_h0 hX20 h
theorem k_MD_goThrough_20 {Z : jZ} {E : jE} (C : jC Z E prog_14_method_16_code 7 "OutOrderModel" 1 22) (hr : (jZh Z).sig.returnType = none) (hE : E.2.2.2 = jLM)  (h0 : Nat) (v1 : Int32) (v2 : Int32) (I : jM) (g_h0 : jOB E 11 h0) {K : jM → Prop} (h : MD_goThrough_20 h0 v1 v2 I K) : jJ Z E 7 (jQv Z E K) 20 [(0, .ref (E.2.2.1 h0)), (1, .int v1), (2, .int v2)] [] I := by
  unfold MD_goThrough_20 at h
  exact h (fun s => jJ Z E 7 (jQv Z E K) 20 [(0, .ref (E.2.2.1 h0)), (1, .int s.1), (2, .int s.2.1)] [] s.2.2) (fun s hs => kb_MD_goThrough_20 C hr hE h0 s.1 s.2.1 s.2.2 g_h0 (fun s2 h2 => h2) hs)
/-- OutOrderModel.goThrough()V -/
def MD_goThrough (h0 : Nat) (I : jM) (K : jM → Prop) : Prop :=
  MD_beginNet h0 I (fun I_2 => (∀ v1_3 : Int32, v1_3 = (((1 : Int32) <<< ((I_2 h0 0) &&& 31)) - (1 : Int32)) → (∀ I_4 : jM, I_4 = jwr I_2 h0 10 (0 : Int32) → MD_goThrough_20 h0 v1_3 (0 : Int32) I_4 K)))
set_option maxRecDepth 100000 in
set_option maxHeartbeats 4000000 in
theorem s_MD_goThrough {l : Launch} {E : jE} (ok : jOK E) (hE : E.2.2.2 = jLM) {h0 : Nat} (g_h0 : jOB E 11 h0) {I : jM} {K : jM → Prop} (h : MD_goThrough h0 I K) : jSv l E ⟨"OutOrderModel", "goThrough", "()V"⟩ prog_14_method_16_code 7 none 1 22 [.ref (E.2.2.1 h0)] I K := by
  refine jS_ofF (own := "OutOrderModel") (by decide +kernel) rfl ok (Nat.le_of_ble_eq_true rfl) (fun Z _ C hr => ?_)
  show jJ Z E 7 (jQv Z E K) 0 [(0, .ref (E.2.2.1 h0))] [] I
  unfold MD_goThrough at h
  refine j_aload_n C d_MD_goThrough_0 rfl 0 rfl ?_
  refine j_callVv (As := []) C jcl_MD cw_MD_100 w_821 ws_25 g_h0 rfl rfl (by decide) (by decide) (Nat.le_of_ble_eq_true rfl) d_MD_goThrough_1 (s_MD_beginNet C.ok hE g_h0 h) (fun I_2 h => ?_)
  refine j_iconst C d_MD_goThrough_4 ic_1 ?_
  refine j_aload_n C d_MD_goThrough_5 rfl 0 rfl ?_
  refine fg_MD_7 C g_h0 d_MD_goThrough_6 ?_
  refine j_ishl C d_MD_goThrough_9 ?_
  refine j_iconst C d_MD_goThrough_10 ic_1 ?_
  refine j_isub C d_MD_goThrough_11 ?_
  refine j_topi (fun v1_3 ev1_3 => ?_)
  have h := h v1_3 ev1_3
  refine j_istore_n C d_MD_goThrough_12 rfl (by decide) (lv' := [(1, .int v1_3), (0, .ref (E.2.2.1 h0))]) rfl ?_
  refine j_aload_n C d_MD_goThrough_13 rfl 1 rfl ?_
  refine j_iconst C d_MD_goThrough_14 ic_0 ?_
  refine fp_MD_103 C g_h0 d_MD_goThrough_15 ?_
  have h := h _ rfl
  generalize eI_4 : (jwr I_2 h0 10 (0 : Int32) : jM) = I_4 at h ⊢
  refine j_iconst C d_MD_goThrough_18 ic_0 ?_
  refine j_istore_n C d_MD_goThrough_19 rfl (by decide) (lv' := [(2, .int (0 : Int32)), (1, .int v1_3), (0, .ref (E.2.2.1 h0))]) rfl ?_
  refine j_lv [2, 1, 0] rfl ?_
  exact k_MD_goThrough_20 C hr hE h0 v1_3 (0 : Int32) I_4 g_h0 h
theorem d_MD_parent_0 : decode prog_14_method_30_code 0 = .ok (.bipush (-9), 2) := by decide +kernel
theorem d_MD_parent_2 : decode prog_14_method_30_code 2 = .ok (.istore_n 2, 1) := by decide +kernel
theorem d_MD_parent_3 : decode prog_14_method_30_code 3 = .ok (.iconst 0, 1) := by decide +kernel
theorem d_MD_parent_4 : decode prog_14_method_30_code 4 = .ok (.istore_n 3, 1) := by decide +kernel
theorem d_MD_parent_5 : decode prog_14_method_30_code 5 = .ok (.iload_n 3, 1) := by decide +kernel
theorem d_MD_parent_6 : decode prog_14_method_30_code 6 = .ok (.aload_n 0, 1) := by decide +kernel
theorem d_MD_parent_7 : decode prog_14_method_30_code 7 = .ok (.getfield 7, 3) := by decide +kernel
theorem d_MD_parent_10 : decode prog_14_method_30_code 10 = .ok (.if_icmp .ge 50, 3) := by decide +kernel
theorem d_MD_parent_13 : decode prog_14_method_30_code 13 = .ok (.aload_n 0, 1) := by decide +kernel
theorem d_MD_parent_14 : decode prog_14_method_30_code 14 = .ok (.getfield 36, 3) := by decide +kernel
theorem d_MD_parent_17 : decode prog_14_method_30_code 17 = .ok (.iload_n 1, 1) := by decide +kernel
theorem d_MD_parent_18 : decode prog_14_method_30_code 18 = .ok (.iaload, 1) := by decide +kernel
theorem d_MD_parent_19 : decode prog_14_method_30_code 19 = .ok (.iload_n 3, 1) := by decide +kernel
theorem d_MD_parent_20 : decode prog_14_method_30_code 20 = .ok (.ishr, 1) := by decide +kernel
theorem d_MD_parent_21 : decode prog_14_method_30_code 21 = .ok (.iconst 1, 1) := by decide +kernel
theorem d_MD_parent_22 : decode prog_14_method_30_code 22 = .ok (.iand, 1) := by decide +kernel
theorem d_MD_parent_23 : decode prog_14_method_30_code 23 = .ok (.iconst 1, 1) := by decide +kernel
theorem d_MD_parent_24 : decode prog_14_method_30_code 24 = .ok (.if_icmp .ne 28, 3) := by decide +kernel
theorem d_MD_parent_27 : decode prog_14_method_30_code 27 = .ok (.iload_n 2, 1) := by decide +kernel
theorem d_MD_parent_28 : decode prog_14_method_30_code 28 = .ok (.bipush (-9), 2) := by decide +kernel
theorem d_MD_parent_30 : decode prog_14_method_30_code 30 = .ok (.if_icmp .eq 18, 3) := by decide +kernel
theorem d_MD_parent_33 : decode prog_14_method_30_code 33 = .ok (.aload_n 0, 1) := by decide +kernel
theorem d_MD_parent_34 : decode prog_14_method_30_code 34 = .ok (.getfield 42, 3) := by decide +kernel
theorem d_MD_parent_37 : decode prog_14_method_30_code 37 = .ok (.iload_n 3, 1) := by decide +kernel
theorem d_MD_parent_38 : decode prog_14_method_30_code 38 = .ok (.iaload, 1) := by decide +kernel
theorem d_MD_parent_39 : decode prog_14_method_30_code 39 = .ok (.aload_n 0, 1) := by decide +kernel
theorem d_MD_parent_40 : decode prog_14_method_30_code 40 = .ok (.getfield 42, 3) := by decide +kernel
theorem d_MD_parent_43 : decode prog_14_method_30_code 43 = .ok (.iload_n 2, 1) := by decide +kernel
theorem d_MD_parent_44 : decode prog_14_method_30_code 44 = .ok (.iaload, 1) := by decide +kernel
theorem d_MD_parent_45 : decode prog_14_method_30_code 45 = .ok (.if_icmp .ge 7, 3) := by decide +kernel
theorem d_MD_parent_48 : decode prog_14_method_30_code 48 = .ok (.iload_n 3, 1) := by decide +kernel
theorem d_MD_parent_49 : decode prog_14_method_30_code 49 = .ok (.goto 4, 3) := by decide +kernel
theorem d_MD_parent_52 : decode prog_14_method_30_code 52 = .ok (.iload_n 2, 1) := by decide +kernel
theorem d_MD_parent_53 : decode prog_14_method_30_code 53 = .ok (.istore_n 2, 1) := by decide +kernel
theorem d_MD_parent_54 : decode prog_14_method_30_code 54 = .ok (.iinc 3 1, 3) := by decide +kernel
theorem d_MD_parent_57 : decode prog_14_method_30_code 57 = .ok (.goto (-52), 3) := by decide +kernel
theorem d_MD_parent_60 : decode prog_14_method_30_code 60 = .ok (.iload_n 2, 1) := by decide +kernel
theorem d_MD_parent_61 : decode prog_14_method_30_code 61 = .ok (.ireturn, 1) := by decide +kernel
def MD_parent_5b (h0 : Nat) (v1 : Int32) (v2 : Int32) (v3 : Int32) (I : jM) (K : Int32 → Prop) (X5 : Int32 × Int32 → Prop) : Prop :=
  (((I h0 0) ≤ v3 → K v2) ∧ (¬ (I h0 0) ≤ v3 → (vp_in v1 24 ∧ ((¬ (((I (jr h0 8) v1.toNatClampNeg) >>> (v3 &&& 31)) &&& (1 : Int32)) = (1 : Int32) → X5 (v2, (v3 + 1))) ∧ ((((I (jr h0 8) v1.toNatClampNeg) >>> (v3 &&& 31)) &&& (1 : Int32)) = (1 : Int32) → ((v2 = (-9 : Int32) → X5 (v3, (v3 + 1))) ∧ (¬ v2 = (-9 : Int32) → (vp_in v3 24 ∧ (vp_in v2 24 ∧ (((I (jr h0 11) v2.toNatClampNeg) ≤ (I (jr h0 11) v3.toNatClampNeg) → X5 (v2, (v3 + 1))) ∧ (¬ (I (jr h0 11) v2.toNatClampNeg) ≤ (I (jr h0 11) v3.toNatClampNeg) → X5 (v3, (v3 + 1)))))))))))))
def MD_parent_5 (h0 : Nat) (v1 : Int32) (v2 : Int32) (v3 : Int32) (I : jM) (K : Int32 → Prop) : Prop :=
  lp (fun (X5 : Int32 × Int32 → Prop) (s : Int32 × Int32) => MD_parent_5b h0 v1 s.1 s.2 I K X5) (v2, v3)
set_option maxRecDepth 100000 in
set_option maxHeartbeats 4000000 in
theorem kb_MD_parent_5 {Z : jZ} {E : jE} (C : jC Z E prog_14_method_30_code 4 "OutOrderModel" 0 0) (hr : (jZh Z).sig.returnType = (some .int)) (hE : E.2.2.2 = jLM)  (h0 : Nat) (v1 : Int32) (v2 : Int32) (v3 : Int32) (I : jM) (g_h0 : jOB E 11 h0) {K : Int32 → Prop} {X5 : Int32 × Int32 → Prop} (hX5 : ∀ s : Int32 × Int32, X5 s → jJ Z E 4 (jQi Z E (fun r I2 => I = I2 ∧ K r)) 5 [(0, .ref (E.2.2.1 h0)), (1, .int v1), (2, .int s.1), (3, .int s.2)] [] I) (h : MD_parent_5b h0 v1 v2 v3 I K X5) : jJ Z E 4 (jQi Z E (fun r I2 => I = I2 ∧ K r)) 5 [(0, .ref (E.2.2.1 h0)), (1, .int v1), (2, .int v2), (3, .int v3)] [] I := by
  unfold MD_parent_5b at h
  refine j_iload_n C d_MD_parent_5 rfl 3 rfl ?_
  refine j_aload_n C d_MD_parent_6 rfl 0 rfl ?_
  refine fg_MD_7 C g_h0 d_MD_parent_7 ?_
  refine j_icmp_ge C d_MD_parent_10 (tgt := 60) (by decide) (fun c10 => ?_) (fun c10 => ?_)
  · have h := h.1 c10
    refine j_iload_n C d_MD_parent_60 rfl 2 rfl ?_
    exact j_iret C hr d_MD_parent_61 ⟨rfl, h⟩
  · have h := h.2 c10
    refine j_aload_n C d_MD_parent_13 rfl 0 rfl ?_
    refine fg_MD_36 C g_h0 d_MD_parent_14 ?_
    refine j_iload_n C d_MD_parent_17 rfl 1 rfl ?_
    obtain ⟨hi, h⟩ := h
    refine j_iaload C (sh_MD_8 hE g_h0) hi d_MD_parent_18 ?_
    refine j_iload_n C d_MD_parent_19 rfl 3 rfl ?_
    refine j_ishr C d_MD_parent_20 ?_
    refine j_iconst C d_MD_parent_21 ic_1 ?_
    refine j_iand C d_MD_parent_22 ?_
    refine j_iconst C d_MD_parent_23 ic_1 ?_
    refine j_icmp_ne C d_MD_parent_24 (tgt := 52) (by decide) (fun c24 => ?_) (fun c24 => ?_)
    · have h := h.1 c24
      refine j_iload_n C d_MD_parent_52 rfl 2 rfl ?_
      refine j_istore_n C d_MD_parent_53 rfl (by decide) (lv' := [(2, .int v2), (0, .ref (E.2.2.1 h0)), (1, .int v1), (3, .int v3)]) rfl ?_
      refine j_iinc C d_MD_parent_54 3 rfl (v := (v3 + 1)) rfl (by decide) (lv' := [(3, .int (v3 + 1)), (2, .int v2), (0, .ref (E.2.2.1 h0)), (1, .int v1)]) rfl ?_
      refine j_goto C d_MD_parent_57 (tgt := 5) (by decide) ?_
      refine j_lv [2, 3, 1, 0] rfl ?_
      exact hX5 (v2, (v3 + 1)) h
    · have h := h.2 c24
      refine j_iload_n C d_MD_parent_27 rfl 2 rfl ?_
      refine j_bipush C d_MD_parent_28 ib_m9 ?_
      refine j_icmp_eq C d_MD_parent_30 (tgt := 48) (by decide) (fun c30 => ?_) (fun c30 => ?_)
      · have h := h.1 c30
        refine j_iload_n C d_MD_parent_48 rfl 3 rfl ?_
        refine j_goto C d_MD_parent_49 (tgt := 53) (by decide) ?_
        refine j_istore_n C d_MD_parent_53 rfl (by decide) (lv' := [(2, .int v3), (0, .ref (E.2.2.1 h0)), (1, .int v1), (3, .int v3)]) rfl ?_
        refine j_iinc C d_MD_parent_54 3 rfl (v := (v3 + 1)) rfl (by decide) (lv' := [(3, .int (v3 + 1)), (2, .int v3), (0, .ref (E.2.2.1 h0)), (1, .int v1)]) rfl ?_
        refine j_goto C d_MD_parent_57 (tgt := 5) (by decide) ?_
        refine j_lv [2, 3, 1, 0] rfl ?_
        exact hX5 (v3, (v3 + 1)) h
      · have h := h.2 c30
        refine j_aload_n C d_MD_parent_33 rfl 0 rfl ?_
        refine fg_MD_42 C g_h0 d_MD_parent_34 ?_
        refine j_iload_n C d_MD_parent_37 rfl 3 rfl ?_
        obtain ⟨hi, h⟩ := h
        refine j_iaload C (sh_MD_11 hE g_h0) hi d_MD_parent_38 ?_
        refine j_aload_n C d_MD_parent_39 rfl 0 rfl ?_
        refine fg_MD_42 C g_h0 d_MD_parent_40 ?_
        refine j_iload_n C d_MD_parent_43 rfl 2 rfl ?_
        obtain ⟨hi, h⟩ := h
        refine j_iaload C (sh_MD_11 hE g_h0) hi d_MD_parent_44 ?_
        refine j_icmp_ge C d_MD_parent_45 (tgt := 52) (by decide) (fun c45 => ?_) (fun c45 => ?_)
        · have h := h.1 c45
          refine j_iload_n C d_MD_parent_52 rfl 2 rfl ?_
          refine j_istore_n C d_MD_parent_53 rfl (by decide) (lv' := [(2, .int v2), (0, .ref (E.2.2.1 h0)), (1, .int v1), (3, .int v3)]) rfl ?_
          refine j_iinc C d_MD_parent_54 3 rfl (v := (v3 + 1)) rfl (by decide) (lv' := [(3, .int (v3 + 1)), (2, .int v2), (0, .ref (E.2.2.1 h0)), (1, .int v1)]) rfl ?_
          refine j_goto C d_MD_parent_57 (tgt := 5) (by decide) ?_
          refine j_lv [2, 3, 1, 0] rfl ?_
          exact hX5 (v2, (v3 + 1)) h
        · have h := h.2 c45
          refine j_iload_n C d_MD_parent_48 rfl 3 rfl ?_
          refine j_goto C d_MD_parent_49 (tgt := 53) (by decide) ?_
          refine j_istore_n C d_MD_parent_53 rfl (by decide) (lv' := [(2, .int v3), (0, .ref (E.2.2.1 h0)), (1, .int v1), (3, .int v3)]) rfl ?_
          refine j_iinc C d_MD_parent_54 3 rfl (v := (v3 + 1)) rfl (by decide) (lv' := [(3, .int (v3 + 1)), (2, .int v3), (0, .ref (E.2.2.1 h0)), (1, .int v1)]) rfl ?_
          refine j_goto C d_MD_parent_57 (tgt := 5) (by decide) ?_
          refine j_lv [2, 3, 1, 0] rfl ?_
          exact hX5 (v3, (v3 + 1)) h
theorem k_MD_parent_5 {Z : jZ} {E : jE} (C : jC Z E prog_14_method_30_code 4 "OutOrderModel" 0 0) (hr : (jZh Z).sig.returnType = (some .int)) (hE : E.2.2.2 = jLM)  (h0 : Nat) (v1 : Int32) (v2 : Int32) (v3 : Int32) (I : jM) (g_h0 : jOB E 11 h0) {K : Int32 → Prop} (h : MD_parent_5 h0 v1 v2 v3 I K) : jJ Z E 4 (jQi Z E (fun r I2 => I = I2 ∧ K r)) 5 [(0, .ref (E.2.2.1 h0)), (1, .int v1), (2, .int v2), (3, .int v3)] [] I := by
  unfold MD_parent_5 at h
  exact h (fun s => jJ Z E 4 (jQi Z E (fun r I2 => I = I2 ∧ K r)) 5 [(0, .ref (E.2.2.1 h0)), (1, .int v1), (2, .int s.1), (3, .int s.2)] [] I) (fun s hs => kb_MD_parent_5 C hr hE h0 v1 s.1 s.2 I g_h0 (fun s2 h2 => h2) hs)
/-- OutOrderModel.parent(I)I -/
def MD_parent (h0 : Nat) (v1 : Int32) (I : jM) (K : Int32 → Prop) : Prop :=
  MD_parent_5 h0 v1 (-9 : Int32) (0 : Int32) I K
set_option maxRecDepth 100000 in
set_option maxHeartbeats 4000000 in
theorem s_MD_parent {l : Launch} {E : jE} (ok : jOK E) (hE : E.2.2.2 = jLM) {h0 : Nat} {v1 : Int32} (g_h0 : jOB E 11 h0) {I : jM} {K : Int32 → Prop} (h : MD_parent h0 v1 I K) : jSi l E ⟨"OutOrderModel", "parent", "(I)I"⟩ prog_14_method_30_code 4 (some .int) 0 0 [.ref (E.2.2.1 h0), .int v1] I (fun r I2 => I = I2 ∧ K r) := by
  refine jS_ofF (own := "OutOrderModel") (by decide +kernel) rfl ok (Nat.le_of_ble_eq_true rfl) (fun Z _ C hr => ?_)
  show jJ Z E 4 (jQi Z E (fun r I2 => I = I2 ∧ K r)) 0 [(0, .ref (E.2.2.1 h0)), (1, .int v1)] [] I
  unfold MD_parent at h
  refine j_bipush C d_MD_parent_0 ib_m9 ?_
  refine j_istore_n C d_MD_parent_2 rfl (by decide) (lv' := [(2, .int (-9 : Int32)), (0, .ref (E.2.2.1 h0)), (1, .int v1)]) rfl ?_
  refine j_iconst C d_MD_parent_3 ic_0 ?_
  refine j_istore_n C d_MD_parent_4 rfl (by decide) (lv' := [(3, .int (0 : Int32)), (2, .int (-9 : Int32)), (0, .ref (E.2.2.1 h0)), (1, .int v1)]) rfl ?_
  refine j_lv [2, 3, 1, 0] rfl ?_
  exact k_MD_parent_5 C hr hE h0 v1 (-9 : Int32) (0 : Int32) I g_h0 h
theorem d_MD_height_0 : decode prog_14_method_31_code 0 = .ok (.iconst 0, 1) := by decide +kernel
theorem d_MD_height_1 : decode prog_14_method_31_code 1 = .ok (.istore_n 2, 1) := by decide +kernel
theorem d_MD_height_2 : decode prog_14_method_31_code 2 = .ok (.aload_n 0, 1) := by decide +kernel
theorem d_MD_height_3 : decode prog_14_method_31_code 3 = .ok (.iload_n 1, 1) := by decide +kernel
theorem d_MD_height_4 : decode prog_14_method_31_code 4 = .ok (.invokevirtual 151, 3) := by decide +kernel
theorem d_MD_height_7 : decode prog_14_method_31_code 7 = .ok (.istore_n 3, 1) := by decide +kernel
theorem d_MD_height_8 : decode prog_14_method_31_code 8 = .ok (.iload_n 3, 1) := by decide +kernel
theorem d_MD_height_9 : decode prog_14_method_31_code 9 = .ok (.bipush (-9), 2) := by decide +kernel
theorem d_MD_height_11 : decode prog_14_method_31_code 11 = .ok (.if_icmp .eq 15, 3) := by decide +kernel
theorem d_MD_height_14 : decode prog_14_method_31_code 14 = .ok (.iinc 2 1, 3) := by decide +kernel
theorem d_MD_height_17 : decode prog_14_method_31_code 17 = .ok (.aload_n 0, 1) := by decide +kernel
theorem d_MD_height_18 : decode prog_14_method_31_code 18 = .ok (.iload_n 3, 1) := by decide +kernel
theorem d_MD_height_19 : decode prog_14_method_31_code 19 = .ok (.invokevirtual 151, 3) := by decide +kernel
theorem d_MD_height_22 : decode prog_14_method_31_code 22 = .ok (.istore_n 3, 1) := by decide +kernel
theorem d_MD_height_23 : decode prog_14_method_31_code 23 = .ok (.goto (-15), 3) := by decide +kernel
theorem d_MD_height_26 : decode prog_14_method_31_code 26 = .ok (.iload_n 2, 1) := by decide +kernel
theorem d_MD_height_27 : decode prog_14_method_31_code 27 = .ok (.ireturn, 1) := by decide +kernel
def MD_height_8b (h0 : Nat) (v2 : Int32) (v3 : Int32) (I : jM) (K : Int32 → Prop) (X8 : Int32 × Int32 → Prop) : Prop :=
  ((v3 = (-9 : Int32) → K v2) ∧ (¬ v3 = (-9 : Int32) → MD_parent h0 v3 I (fun r_1 => X8 ((v2 + 1), r_1))))
def MD_height_8 (h0 : Nat) (v2 : Int32) (v3 : Int32) (I : jM) (K : Int32 → Prop) : Prop :=
  lp (fun (X8 : Int32 × Int32 → Prop) (s : Int32 × Int32) => MD_height_8b h0 s.1 s.2 I K X8) (v2, v3)
set_option maxRecDepth 100000 in
set_option maxHeartbeats 4000000 in
theorem kb_MD_height_8 {Z : jZ} {E : jE} (C : jC Z E prog_14_method_31_code 4 "OutOrderModel" 1 23) (hr : (jZh Z).sig.returnType = (some .int)) (hE : E.2.2.2 = jLM)  (h0 : Nat) (v2 : Int32) (v3 : Int32) (I : jM) (g_h0 : jOB E 11 h0) {K : Int32 → Prop} {X8 : Int32 × Int32 → Prop} (hX8 : ∀ s : Int32 × Int32, X8 s → jJ Z E 4 (jQi Z E (fun r I2 => I = I2 ∧ K r)) 8 [(0, .ref (E.2.2.1 h0)), (2, .int s.1), (3, .int s.2)] [] I) (h : MD_height_8b h0 v2 v3 I K X8) : jJ Z E 4 (jQi Z E (fun r I2 => I = I2 ∧ K r)) 8 [(0, .ref (E.2.2.1 h0)), (2, .int v2), (3, .int v3)] [] I := by
  unfold MD_height_8b at h
  refine j_iload_n C d_MD_height_8 rfl 2 rfl ?_
  refine j_bipush C d_MD_height_9 ib_m9 ?_
  refine j_icmp_eq C d_MD_height_11 (tgt := 26) (by decide) (fun c11 => ?_) (fun c11 => ?_)
  · have h := h.1 c11
    refine j_iload_n C d_MD_height_26 rfl 1 rfl ?_
    exact j_iret C hr d_MD_height_27 ⟨rfl, h⟩
  · have h := h.2 c11
    refine j_iinc C d_MD_height_14 1 rfl (v := (v2 + 1)) rfl (by decide) (lv' := [(2, .int (v2 + 1)), (0, .ref (E.2.2.1 h0)), (3, .int v3)]) rfl ?_
    refine j_aload_n C d_MD_height_17 rfl 1 rfl ?_
    refine j_iload_n C d_MD_height_18 rfl 2 rfl ?_
    refine j_callVi (As := [.int v3]) C jcl_MD cw_MD_151 w_922 ws_38 g_h0 rfl rfl (by decide) (by decide) (Nat.le_of_ble_eq_true rfl) d_MD_height_19 (s_MD_parent C.ok hE g_h0 h) (fun r_1 I2 h => ?_)
    obtain ⟨rfl, h⟩ := h
    refine j_istore_n C d_MD_height_22 rfl (by decide) (lv' := [(3, .int r_1), (2, .int (v2 + 1)), (0, .ref (E.2.2.1 h0))]) rfl ?_
    refine j_goto C d_MD_height_23 (tgt := 8) (by decide) ?_
    refine j_lv [2, 1, 0] rfl ?_
    exact hX8 ((v2 + 1), r_1) h
theorem k_MD_height_8 {Z : jZ} {E : jE} (C : jC Z E prog_14_method_31_code 4 "OutOrderModel" 1 23) (hr : (jZh Z).sig.returnType = (some .int)) (hE : E.2.2.2 = jLM)  (h0 : Nat) (v2 : Int32) (v3 : Int32) (I : jM) (g_h0 : jOB E 11 h0) {K : Int32 → Prop} (h : MD_height_8 h0 v2 v3 I K) : jJ Z E 4 (jQi Z E (fun r I2 => I = I2 ∧ K r)) 8 [(0, .ref (E.2.2.1 h0)), (2, .int v2), (3, .int v3)] [] I := by
  unfold MD_height_8 at h
  exact h (fun s => jJ Z E 4 (jQi Z E (fun r I2 => I = I2 ∧ K r)) 8 [(0, .ref (E.2.2.1 h0)), (2, .int s.1), (3, .int s.2)] [] I) (fun s hs => kb_MD_height_8 C hr hE h0 s.1 s.2 I g_h0 (fun s2 h2 => h2) hs)
/-- OutOrderModel.height(I)I -/
def MD_height (h0 : Nat) (v1 : Int32) (I : jM) (K : Int32 → Prop) : Prop :=
  MD_parent h0 v1 I (fun r_1 => MD_height_8 h0 (0 : Int32) r_1 I K)
set_option maxRecDepth 100000 in
set_option maxHeartbeats 4000000 in
theorem s_MD_height {l : Launch} {E : jE} (ok : jOK E) (hE : E.2.2.2 = jLM) {h0 : Nat} {v1 : Int32} (g_h0 : jOB E 11 h0) {I : jM} {K : Int32 → Prop} (h : MD_height h0 v1 I K) : jSi l E ⟨"OutOrderModel", "height", "(I)I"⟩ prog_14_method_31_code 4 (some .int) 1 23 [.ref (E.2.2.1 h0), .int v1] I (fun r I2 => I = I2 ∧ K r) := by
  refine jS_ofF (own := "OutOrderModel") (by decide +kernel) rfl ok (Nat.le_of_ble_eq_true rfl) (fun Z _ C hr => ?_)
  show jJ Z E 4 (jQi Z E (fun r I2 => I = I2 ∧ K r)) 0 [(0, .ref (E.2.2.1 h0)), (1, .int v1)] [] I
  unfold MD_height at h
  refine j_iconst C d_MD_height_0 ic_0 ?_
  refine j_istore_n C d_MD_height_1 rfl (by decide) (lv' := [(2, .int (0 : Int32)), (0, .ref (E.2.2.1 h0)), (1, .int v1)]) rfl ?_
  refine j_aload_n C d_MD_height_2 rfl 1 rfl ?_
  refine j_iload_n C d_MD_height_3 rfl 2 rfl ?_
  refine j_callVi (As := [.int v1]) C jcl_MD cw_MD_151 w_922 ws_38 g_h0 rfl rfl (by decide) (by decide) (Nat.le_of_ble_eq_true rfl) d_MD_height_4 (s_MD_parent C.ok hE g_h0 h) (fun r_1 I2 h => ?_)
  obtain ⟨rfl, h⟩ := h
  refine j_istore_n C d_MD_height_7 rfl (by decide) (lv' := [(3, .int r_1), (2, .int (0 : Int32)), (0, .ref (E.2.2.1 h0)), (1, .int v1)]) rfl ?_
  refine j_lv [2, 1, 0] rfl ?_
  exact k_MD_height_8 C hr hE h0 (0 : Int32) r_1 I g_h0 h
theorem d_MD_column_0 : decode prog_14_method_32_code 0 = .ok (.aload_n 0, 1) := by decide +kernel
theorem d_MD_column_1 : decode prog_14_method_32_code 1 = .ok (.iload_n 1, 1) := by decide +kernel
theorem d_MD_column_2 : decode prog_14_method_32_code 2 = .ok (.invokevirtual 90, 3) := by decide +kernel
theorem d_MD_column_5 : decode prog_14_method_32_code 5 = .ok (.ifCond .ne 9, 3) := by decide +kernel
theorem d_MD_column_8 : decode prog_14_method_32_code 8 = .ok (.aload_n 0, 1) := by decide +kernel
theorem d_MD_column_9 : decode prog_14_method_32_code 9 = .ok (.iconst (-1), 1) := by decide +kernel
theorem d_MD_column_10 : decode prog_14_method_32_code 10 = .ok (.invokevirtual 79, 3) := by decide +kernel
theorem d_MD_column_13 : decode prog_14_method_32_code 13 = .ok (.ireturn, 1) := by decide +kernel
theorem d_MD_column_14 : decode prog_14_method_32_code 14 = .ok (.aload_n 0, 1) := by decide +kernel
theorem d_MD_column_15 : decode prog_14_method_32_code 15 = .ok (.invokevirtual 148, 3) := by decide +kernel
theorem d_MD_column_18 : decode prog_14_method_32_code 18 = .ok (.iconst 0, 1) := by decide +kernel
theorem d_MD_column_19 : decode prog_14_method_32_code 19 = .ok (.istore_n 3, 1) := by decide +kernel
theorem d_MD_column_20 : decode prog_14_method_32_code 20 = .ok (.iconst 0, 1) := by decide +kernel
theorem d_MD_column_21 : decode prog_14_method_32_code 21 = .ok (.istore 4, 2) := by decide +kernel
theorem d_MD_column_23 : decode prog_14_method_32_code 23 = .ok (.iload 4, 2) := by decide +kernel
theorem d_MD_column_25 : decode prog_14_method_32_code 25 = .ok (.aload_n 0, 1) := by decide +kernel
theorem d_MD_column_26 : decode prog_14_method_32_code 26 = .ok (.getfield 7, 3) := by decide +kernel
theorem d_MD_column_29 : decode prog_14_method_32_code 29 = .ok (.if_icmp .ge 27, 3) := by decide +kernel
theorem d_MD_column_32 : decode prog_14_method_32_code 32 = .ok (.iload_n 3, 1) := by decide +kernel
theorem d_MD_column_33 : decode prog_14_method_32_code 33 = .ok (.aload_n 0, 1) := by decide +kernel
theorem d_MD_column_34 : decode prog_14_method_32_code 34 = .ok (.iload 4, 2) := by decide +kernel
theorem d_MD_column_36 : decode prog_14_method_32_code 36 = .ok (.invokevirtual 151, 3) := by decide +kernel
theorem d_MD_column_39 : decode prog_14_method_32_code 39 = .ok (.iload_n 1, 1) := by decide +kernel
theorem d_MD_column_40 : decode prog_14_method_32_code 40 = .ok (.if_icmp .ne 7, 3) := by decide +kernel
theorem d_MD_column_43 : decode prog_14_method_32_code 43 = .ok (.iconst 1, 1) := by decide +kernel
theorem d_MD_column_44 : decode prog_14_method_32_code 44 = .ok (.goto 4, 3) := by decide +kernel
theorem d_MD_column_47 : decode prog_14_method_32_code 47 = .ok (.iconst 0, 1) := by decide +kernel
theorem d_MD_column_48 : decode prog_14_method_32_code 48 = .ok (.iadd, 1) := by decide +kernel
theorem d_MD_column_49 : decode prog_14_method_32_code 49 = .ok (.istore_n 3, 1) := by decide +kernel
theorem d_MD_column_50 : decode prog_14_method_32_code 50 = .ok (.iinc 4 1, 3) := by decide +kernel
theorem d_MD_column_53 : decode prog_14_method_32_code 53 = .ok (.goto (-30), 3) := by decide +kernel
theorem d_MD_column_56 : decode prog_14_method_32_code 56 = .ok (.iload_n 2, 1) := by decide +kernel
theorem d_MD_column_57 : decode prog_14_method_32_code 57 = .ok (.tableswitch 71 0 4 #[35, 42, 52, 58, 65], 35) := by decide +kernel
theorem d_MD_column_92 : decode prog_14_method_32_code 92 = .ok (.aload_n 0, 1) := by decide +kernel
theorem d_MD_column_93 : decode prog_14_method_32_code 93 = .ok (.getfield 42, 3) := by decide +kernel
theorem d_MD_column_96 : decode prog_14_method_32_code 96 = .ok (.iload_n 1, 1) := by decide +kernel
theorem d_MD_column_97 : decode prog_14_method_32_code 97 = .ok (.iaload, 1) := by decide +kernel
theorem d_MD_column_98 : decode prog_14_method_32_code 98 = .ok (.ireturn, 1) := by decide +kernel
theorem d_MD_column_99 : decode prog_14_method_32_code 99 = .ok (.aload_n 0, 1) := by decide +kernel
theorem d_MD_column_100 : decode prog_14_method_32_code 100 = .ok (.getfield 36, 3) := by decide +kernel
theorem d_MD_column_103 : decode prog_14_method_32_code 103 = .ok (.iload_n 1, 1) := by decide +kernel
theorem d_MD_column_104 : decode prog_14_method_32_code 104 = .ok (.iaload, 1) := by decide +kernel
theorem d_MD_column_105 : decode prog_14_method_32_code 105 = .ok (.invokestatic 98, 3) := by decide +kernel
theorem d_MD_column_108 : decode prog_14_method_32_code 108 = .ok (.ireturn, 1) := by decide +kernel
theorem d_MD_column_109 : decode prog_14_method_32_code 109 = .ok (.aload_n 0, 1) := by decide +kernel
theorem d_MD_column_110 : decode prog_14_method_32_code 110 = .ok (.iload_n 1, 1) := by decide +kernel
theorem d_MD_column_111 : decode prog_14_method_32_code 111 = .ok (.invokevirtual 151, 3) := by decide +kernel
theorem d_MD_column_114 : decode prog_14_method_32_code 114 = .ok (.ireturn, 1) := by decide +kernel
theorem d_MD_column_115 : decode prog_14_method_32_code 115 = .ok (.aload_n 0, 1) := by decide +kernel
theorem d_MD_column_116 : decode prog_14_method_32_code 116 = .ok (.getfield 36, 3) := by decide +kernel
theorem d_MD_column_119 : decode prog_14_method_32_code 119 = .ok (.iload_n 1, 1) := by decide +kernel
theorem d_MD_column_120 : decode prog_14_method_32_code 120 = .ok (.iaload, 1) := by decide +kernel
theorem d_MD_column_121 : decode prog_14_method_32_code 121 = .ok (.ireturn, 1) := by decide +kernel
theorem d_MD_column_122 : decode prog_14_method_32_code 122 = .ok (.aload_n 0, 1) := by decide +kernel
theorem d_MD_column_123 : decode prog_14_method_32_code 123 = .ok (.iload_n 1, 1) := by decide +kernel
theorem d_MD_column_124 : decode prog_14_method_32_code 124 = .ok (.invokevirtual 154, 3) := by decide +kernel
theorem d_MD_column_127 : decode prog_14_method_32_code 127 = .ok (.ireturn, 1) := by decide +kernel
theorem d_MD_column_128 : decode prog_14_method_32_code 128 = .ok (.iload_n 2, 1) := by decide +kernel
theorem d_MD_column_129 : decode prog_14_method_32_code 129 = .ok (.iconst 5, 1) := by decide +kernel
theorem d_MD_column_130 : decode prog_14_method_32_code 130 = .ok (.if_icmp .ne 7, 3) := by decide +kernel
theorem d_MD_column_133 : decode prog_14_method_32_code 133 = .ok (.iload_n 3, 1) := by decide +kernel
theorem d_MD_column_134 : decode prog_14_method_32_code 134 = .ok (.goto 5, 3) := by decide +kernel
theorem d_MD_column_137 : decode prog_14_method_32_code 137 = .ok (.bipush (-9), 2) := by decide +kernel
theorem d_MD_column_139 : decode prog_14_method_32_code 139 = .ok (.ireturn, 1) := by decide +kernel
def MD_column_23b (h0 : Nat) (v1 : Int32) (v2 : Int32) (v3 : Int32) (v4 : Int32) (I : jM) (K : Int32 → jM → Prop) (X23 : Int32 × Int32 → Prop) : Prop :=
  (((I h0 0) ≤ v4 → ((v2 = 0 → (vp_in v1 24 ∧ K (I (jr h0 11) v1.toNatClampNeg) I)) ∧ (v2 = 1 → (vp_in v1 24 ∧ MD_ones (I (jr h0 8) v1.toNatClampNeg) I (fun r_1 => K r_1 I))) ∧ (v2 = 2 → MD_parent h0 v1 I (fun r_2 => K r_2 I)) ∧ (v2 = 3 → (vp_in v1 24 ∧ K (I (jr h0 8) v1.toNatClampNeg) I)) ∧ (v2 = 4 → MD_height h0 v1 I (fun r_3 => K r_3 I)) ∧ (¬ v2 = 0 → ¬ v2 = 1 → ¬ v2 = 2 → ¬ v2 = 3 → ¬ v2 = 4 → ((¬ v2 = (5 : Int32) → K (-9 : Int32) I) ∧ (v2 = (5 : Int32) → K v3 I))))) ∧ (¬ (I h0 0) ≤ v4 → MD_parent h0 v4 I (fun r_4 => ((¬ r_4 = v1 → (∀ v3_5 : Int32, v3_5 = (v3 + (0 : Int32)) → X23 (v3_5, (v4 + 1)))) ∧ (r_4 = v1 → (∀ v3_6 : Int32, v3_6 = (v3 + (1 : Int32)) → X23 (v3_6, (v4 + 1))))))))
def MD_column_23 (h0 : Nat) (v1 : Int32) (v2 : Int32) (v3 : Int32) (v4 : Int32) (I : jM) (K : Int32 → jM → Prop) : Prop :=
  lp (fun (X23 : Int32 × Int32 → Prop) (s : Int32 × Int32) => MD_column_23b h0 v1 v2 s.1 s.2 I K X23) (v3, v4)
set_option maxRecDepth 100000 in
set_option maxHeartbeats 4000000 in
theorem kb_MD_column_23 {Z : jZ} {E : jE} (C : jC Z E prog_14_method_32_code 5 "OutOrderModel" 2 48) (hr : (jZh Z).sig.returnType = (some .int)) (hE : E.2.2.2 = jLM)  (h0 : Nat) (v1 : Int32) (v2 : Int32) (v3 : Int32) (v4 : Int32) (I : jM) (g_h0 : jOB E 11 h0) {K : Int32 → jM → Prop} {X23 : Int32 × Int32 → Prop} (hX23 : ∀ s : Int32 × Int32, X23 s → jJ Z E 5 (jQi Z E K) 23 [(0, .ref (E.2.2.1 h0)), (1, .int v1), (2, .int v2), (3, .int s.1), (4, .int s.2)] [] I) (h : MD_column_23b h0 v1 v2 v3 v4 I K X23) : jJ Z E 5 (jQi Z E K) 23 [(0, .ref (E.2.2.1 h0)), (1, .int v1), (2, .int v2), (3, .int v3), (4, .int v4)] [] I := by
  unfold MD_column_23b at h
  refine j_iload C d_MD_column_23 4 rfl ?_
  refine j_aload_n C d_MD_column_25 rfl 0 rfl ?_
  refine fg_MD_7 C g_h0 d_MD_column_26 ?_
  refine j_icmp_ge C d_MD_column_29 (tgt := 56) (by decide) (fun c29 => ?_) (fun c29 => ?_)
  · have h := h.1 c29
    refine j_iload_n C d_MD_column_56 rfl 2 rfl ?_
    by_cases c57_0 : v2 = 0
    · have h := h.1 c57_0
      refine j_tableIn C d_MD_column_57 (off := 35) (tgt := 92) (by rw [c57_0]; decide) (by rw [c57_0]; decide) (by rw [c57_0]; rfl) (by decide) ?_
      refine j_aload_n C d_MD_column_92 rfl 0 rfl ?_
      refine fg_MD_42 C g_h0 d_MD_column_93 ?_
      refine j_iload_n C d_MD_column_96 rfl 1 rfl ?_
      obtain ⟨hi, h⟩ := h
      refine j_iaload C (sh_MD_11 hE g_h0) hi d_MD_column_97 ?_
      exact j_iret C hr d_MD_column_98 h
    by_cases c57_1 : v2 = 1
    · have h := h.2.1 c57_1
      refine j_tableIn C d_MD_column_57 (off := 42) (tgt := 99) (by rw [c57_1]; decide) (by rw [c57_1]; decide) (by rw [c57_1]; rfl) (by decide) ?_
      refine j_aload_n C d_MD_column_99 rfl 0 rfl ?_
      refine fg_MD_36 C g_h0 d_MD_column_100 ?_
      refine j_iload_n C d_MD_column_103 rfl 1 rfl ?_
      obtain ⟨hi, h⟩ := h
      refine j_iaload C (sh_MD_8 hE g_h0) hi d_MD_column_104 ?_
      refine j_callSi (As := [.int (I (jr h0 8) v1.toNatClampNeg)]) C cw_MD_98 w_866 rfl rfl (by decide) (by decide) (Nat.le_of_ble_eq_true rfl) d_MD_column_105 (s_MD_ones C.ok  h) (fun r_1 I2 h => ?_)
      obtain ⟨rfl, h⟩ := h
      exact j_iret C hr d_MD_column_108 h
    by_cases c57_2 : v2 = 2
    · have h := h.2.2.1 c57_2
      refine j_tableIn C d_MD_column_57 (off := 52) (tgt := 109) (by rw [c57_2]; decide) (by rw [c57_2]; decide) (by rw [c57_2]; rfl) (by decide) ?_
      refine j_aload_n C d_MD_column_109 rfl 0 rfl ?_
      refine j_iload_n C d_MD_column_110 rfl 1 rfl ?_
      refine j_callVi (As := [.int v1]) C jcl_MD cw_MD_151 w_922 ws_38 g_h0 rfl rfl (by decide) (by decide) (Nat.le_of_ble_eq_true rfl) d_MD_column_111 (s_MD_parent C.ok hE g_h0 h) (fun r_2 I2 h => ?_)
      obtain ⟨rfl, h⟩ := h
      exact j_iret C hr d_MD_column_114 h
    by_cases c57_3 : v2 = 3
    · have h := h.2.2.2.1 c57_3
      refine j_tableIn C d_MD_column_57 (off := 58) (tgt := 115) (by rw [c57_3]; decide) (by rw [c57_3]; decide) (by rw [c57_3]; rfl) (by decide) ?_
      refine j_aload_n C d_MD_column_115 rfl 0 rfl ?_
      refine fg_MD_36 C g_h0 d_MD_column_116 ?_
      refine j_iload_n C d_MD_column_119 rfl 1 rfl ?_
      obtain ⟨hi, h⟩ := h
      refine j_iaload C (sh_MD_8 hE g_h0) hi d_MD_column_120 ?_
      exact j_iret C hr d_MD_column_121 h
    by_cases c57_4 : v2 = 4
    · have h := h.2.2.2.2.1 c57_4
      refine j_tableIn C d_MD_column_57 (off := 65) (tgt := 122) (by rw [c57_4]; decide) (by rw [c57_4]; decide) (by rw [c57_4]; rfl) (by decide) ?_
      refine j_aload_n C d_MD_column_122 rfl 0 rfl ?_
      refine j_iload_n C d_MD_column_123 rfl 1 rfl ?_
      refine j_callVi (As := [.int v1]) C jcl_MD cw_MD_154 w_926 ws_39 g_h0 rfl rfl (by decide) (by decide) (Nat.le_of_ble_eq_true rfl) d_MD_column_124 (s_MD_height C.ok hE g_h0 h) (fun r_3 I2 h => ?_)
      obtain ⟨rfl, h⟩ := h
      exact j_iret C hr d_MD_column_127 h
    have h := h.2.2.2.2.2 c57_0 c57_1 c57_2 c57_3 c57_4
    refine j_tableOut C d_MD_column_57 (tgt := 128) (by have n0 := sw_ne (n := 0) (by decide) c57_0; have n1 := sw_ne (n := 1) (by decide) c57_1; have n2 := sw_ne (n := 2) (by decide) c57_2; have n3 := sw_ne (n := 3) (by decide) c57_3; have n4 := sw_ne (n := 4) (by decide) c57_4; omega) (by decide) ?_
    refine j_iload_n C d_MD_column_128 rfl 2 rfl ?_
    refine j_iconst C d_MD_column_129 ic_5 ?_
    refine j_icmp_ne C d_MD_column_130 (tgt := 137) (by decide) (fun c130 => ?_) (fun c130 => ?_)
    · have h := h.1 c130
      refine j_bipush C d_MD_column_137 ib_m9 ?_
      exact j_iret C hr d_MD_column_139 h
    · have h := h.2 c130
      refine j_iload_n C d_MD_column_133 rfl 3 rfl ?_
      refine j_goto C d_MD_column_134 (tgt := 139) (by decide) ?_
      exact j_iret C hr d_MD_column_139 h
  · have h := h.2 c29
    refine j_iload_n C d_MD_column_32 rfl 3 rfl ?_
    refine j_aload_n C d_MD_column_33 rfl 0 rfl ?_
    refine j_iload C d_MD_column_34 4 rfl ?_
    refine j_callVi (As := [.int v4]) C jcl_MD cw_MD_151 w_922 ws_38 g_h0 rfl rfl (by decide) (by decide) (Nat.le_of_ble_eq_true rfl) d_MD_column_36 (s_MD_parent C.ok hE g_h0 h) (fun r_4 I2 h => ?_)
    obtain ⟨rfl, h⟩ := h
    refine j_iload_n C d_MD_column_39 rfl 1 rfl ?_
    refine j_icmp_ne C d_MD_column_40 (tgt := 47) (by decide) (fun c40 => ?_) (fun c40 => ?_)
    · have h := h.1 c40
      refine j_iconst C d_MD_column_47 ic_0 ?_
      refine j_iadd C d_MD_column_48 ?_
      refine j_topi (fun v3_5 ev3_5 => ?_)
      have h := h v3_5 ev3_5
      refine j_istore_n C d_MD_column_49 rfl (by decide) (lv' := [(3, .int v3_5), (0, .ref (E.2.2.1 h0)), (1, .int v1), (2, .int v2), (4, .int v4)]) rfl ?_
      refine j_iinc C d_MD_column_50 4 rfl (v := (v4 + 1)) rfl (by decide) (lv' := [(4, .int (v4 + 1)), (3, .int v3_5), (0, .ref (E.2.2.1 h0)), (1, .int v1), (2, .int v2)]) rfl ?_
      refine j_goto C d_MD_column_53 (tgt := 23) (by decide) ?_
      refine j_lv [2, 3, 4, 1, 0] rfl ?_
      exact hX23 (v3_5, (v4 + 1)) h
    · have h := h.2 c40
      refine j_iconst C d_MD_column_43 ic_1 ?_
      refine j_goto C d_MD_column_44 (tgt := 48) (by decide) ?_
      refine j_iadd C d_MD_column_48 ?_
      refine j_topi (fun v3_6 ev3_6 => ?_)
      have h := h v3_6 ev3_6
      refine j_istore_n C d_MD_column_49 rfl (by decide) (lv' := [(3, .int v3_6), (0, .ref (E.2.2.1 h0)), (1, .int v1), (2, .int v2), (4, .int v4)]) rfl ?_
      refine j_iinc C d_MD_column_50 4 rfl (v := (v4 + 1)) rfl (by decide) (lv' := [(4, .int (v4 + 1)), (3, .int v3_6), (0, .ref (E.2.2.1 h0)), (1, .int v1), (2, .int v2)]) rfl ?_
      refine j_goto C d_MD_column_53 (tgt := 23) (by decide) ?_
      refine j_lv [2, 3, 4, 1, 0] rfl ?_
      exact hX23 (v3_6, (v4 + 1)) h
theorem k_MD_column_23 {Z : jZ} {E : jE} (C : jC Z E prog_14_method_32_code 5 "OutOrderModel" 2 48) (hr : (jZh Z).sig.returnType = (some .int)) (hE : E.2.2.2 = jLM)  (h0 : Nat) (v1 : Int32) (v2 : Int32) (v3 : Int32) (v4 : Int32) (I : jM) (g_h0 : jOB E 11 h0) {K : Int32 → jM → Prop} (h : MD_column_23 h0 v1 v2 v3 v4 I K) : jJ Z E 5 (jQi Z E K) 23 [(0, .ref (E.2.2.1 h0)), (1, .int v1), (2, .int v2), (3, .int v3), (4, .int v4)] [] I := by
  unfold MD_column_23 at h
  exact h (fun s => jJ Z E 5 (jQi Z E K) 23 [(0, .ref (E.2.2.1 h0)), (1, .int v1), (2, .int v2), (3, .int s.1), (4, .int s.2)] [] I) (fun s hs => kb_MD_column_23 C hr hE h0 v1 v2 s.1 s.2 I g_h0 (fun s2 h2 => h2) hs)
/-- OutOrderModel.column(II)I -/
def MD_column (h0 : Nat) (v1 : Int32) (v2 : Int32) (I : jM) (K : Int32 → jM → Prop) : Prop :=
  MD_isUnknown h0 v1 I (fun r_1 => ((¬ r_1 = 0 → MD_goThrough h0 I (fun I_3 => MD_column_23 h0 v1 v2 (0 : Int32) (0 : Int32) I_3 K)) ∧ (r_1 = 0 → MD_refuse h0 (-1 : Int32) I (fun r_4 I_5 => K r_4 I_5))))
set_option maxRecDepth 100000 in
set_option maxHeartbeats 4000000 in
theorem s_MD_column {l : Launch} {E : jE} (ok : jOK E) (hE : E.2.2.2 = jLM) {h0 : Nat} {v1 : Int32} {v2 : Int32} (g_h0 : jOB E 11 h0) {I : jM} {K : Int32 → jM → Prop} (h : MD_column h0 v1 v2 I K) : jSi l E ⟨"OutOrderModel", "column", "(II)I"⟩ prog_14_method_32_code 5 (some .int) 2 48 [.ref (E.2.2.1 h0), .int v1, .int v2] I K := by
  refine jS_ofF (own := "OutOrderModel") (by decide +kernel) rfl ok (Nat.le_of_ble_eq_true rfl) (fun Z _ C hr => ?_)
  show jJ Z E 5 (jQi Z E K) 0 [(0, .ref (E.2.2.1 h0)), (1, .int v1), (2, .int v2)] [] I
  unfold MD_column at h
  refine j_aload_n C d_MD_column_0 rfl 0 rfl ?_
  refine j_iload_n C d_MD_column_1 rfl 1 rfl ?_
  refine j_callVi (As := [.int v1]) C jcl_MD cw_MD_90 w_829 ws_26 g_h0 rfl rfl (by decide) (by decide) (Nat.le_of_ble_eq_true rfl) d_MD_column_2 (s_MD_isUnknown C.ok g_h0 h) (fun r_1 I2 h => ?_)
  obtain ⟨rfl, h⟩ := h
  refine j_if_ne C d_MD_column_5 (tgt := 14) (by decide) (fun c5 => ?_) (fun c5 => ?_)
  · have h := h.1 c5
    refine j_aload_n C d_MD_column_14 rfl 0 rfl ?_
    refine j_callVv (As := []) C jcl_MD cw_MD_148 w_901 ws_37 g_h0 rfl rfl (by decide) (by decide) (Nat.le_of_ble_eq_true rfl) d_MD_column_15 (s_MD_goThrough C.ok hE g_h0 h) (fun I_3 h => ?_)
    refine j_iconst C d_MD_column_18 ic_0 ?_
    refine j_istore_n C d_MD_column_19 rfl (by decide) (lv' := [(3, .int (0 : Int32)), (0, .ref (E.2.2.1 h0)), (1, .int v1), (2, .int v2)]) rfl ?_
    refine j_iconst C d_MD_column_20 ic_0 ?_
    refine j_istore C d_MD_column_21 (by decide) (lv' := [(4, .int (0 : Int32)), (3, .int (0 : Int32)), (0, .ref (E.2.2.1 h0)), (1, .int v1), (2, .int v2)]) rfl ?_
    refine j_lv [2, 3, 4, 1, 0] rfl ?_
    exact k_MD_column_23 C hr hE h0 v1 v2 (0 : Int32) (0 : Int32) I_3 g_h0 h
  · have h := h.2 c5
    refine j_aload_n C d_MD_column_8 rfl 0 rfl ?_
    refine j_iconst C d_MD_column_9 ic_m1 ?_
    refine j_callVi (As := [.int (-1 : Int32)]) C jcl_MD cw_MD_79 w_809 ws_23 g_h0 rfl rfl (by decide) (by decide) (Nat.le_of_ble_eq_true rfl) d_MD_column_10 (s_MD_refuse C.ok hE g_h0 h) (fun r_4 I_5 h => ?_)
    exact j_iret C hr d_MD_column_13 h
theorem d_MD_fill_0 : decode prog_14_method_29_code 0 = .ok (.aload_n 0, 1) := by decide +kernel
theorem d_MD_fill_1 : decode prog_14_method_29_code 1 = .ok (.invokevirtual 148, 3) := by decide +kernel
theorem d_MD_fill_4 : decode prog_14_method_29_code 4 = .ok (.iload_n 1, 1) := by decide +kernel
theorem d_MD_fill_5 : decode prog_14_method_29_code 5 = .ok (.iconst 0, 1) := by decide +kernel
theorem d_MD_fill_6 : decode prog_14_method_29_code 6 = .ok (.aload_n 0, 1) := by decide +kernel
theorem d_MD_fill_7 : decode prog_14_method_29_code 7 = .ok (.getfield 103, 3) := by decide +kernel
theorem d_MD_fill_10 : decode prog_14_method_29_code 10 = .ok (.iconst 1, 1) := by decide +kernel
theorem d_MD_fill_11 : decode prog_14_method_29_code 11 = .ok (.isub, 1) := by decide +kernel
theorem d_MD_fill_12 : decode prog_14_method_29_code 12 = .ok (.invokestatic 75, 3) := by decide +kernel
theorem d_MD_fill_15 : decode prog_14_method_29_code 15 = .ok (.ifCond .eq 12, 3) := by decide +kernel
theorem d_MD_fill_18 : decode prog_14_method_29_code 18 = .ok (.aload_n 0, 1) := by decide +kernel
theorem d_MD_fill_19 : decode prog_14_method_29_code 19 = .ok (.getfield 39, 3) := by decide +kernel
theorem d_MD_fill_22 : decode prog_14_method_29_code 22 = .ok (.iload_n 1, 1) := by decide +kernel
theorem d_MD_fill_23 : decode prog_14_method_29_code 23 = .ok (.iaload, 1) := by decide +kernel
theorem d_MD_fill_24 : decode prog_14_method_29_code 24 = .ok (.goto 5, 3) := by decide +kernel
theorem d_MD_fill_27 : decode prog_14_method_29_code 27 = .ok (.bipush (-9), 2) := by decide +kernel
theorem d_MD_fill_29 : decode prog_14_method_29_code 29 = .ok (.ireturn, 1) := by decide +kernel
/-- OutOrderModel.fill(I)I -/
def MD_fill (h0 : Nat) (v1 : Int32) (I : jM) (K : Int32 → jM → Prop) : Prop :=
  MD_goThrough h0 I (fun I_2 => MD_in v1 (0 : Int32) ((I_2 h0 10) - (1 : Int32)) I_2 (fun r_3 => ((r_3 = 0 → K (-9 : Int32) I_2) ∧ (¬ r_3 = 0 → (vp_in v1 300 ∧ K (I_2 (jr h0 9) v1.toNatClampNeg) I_2)))))
set_option maxRecDepth 100000 in
set_option maxHeartbeats 4000000 in
theorem s_MD_fill {l : Launch} {E : jE} (ok : jOK E) (hE : E.2.2.2 = jLM) {h0 : Nat} {v1 : Int32} (g_h0 : jOB E 11 h0) {I : jM} {K : Int32 → jM → Prop} (h : MD_fill h0 v1 I K) : jSi l E ⟨"OutOrderModel", "fill", "(I)I"⟩ prog_14_method_29_code 2 (some .int) 2 48 [.ref (E.2.2.1 h0), .int v1] I K := by
  refine jS_ofF (own := "OutOrderModel") (by decide +kernel) rfl ok (Nat.le_of_ble_eq_true rfl) (fun Z _ C hr => ?_)
  show jJ Z E 2 (jQi Z E K) 0 [(0, .ref (E.2.2.1 h0)), (1, .int v1)] [] I
  unfold MD_fill at h
  refine j_aload_n C d_MD_fill_0 rfl 0 rfl ?_
  refine j_callVv (As := []) C jcl_MD cw_MD_148 w_901 ws_37 g_h0 rfl rfl (by decide) (by decide) (Nat.le_of_ble_eq_true rfl) d_MD_fill_1 (s_MD_goThrough C.ok hE g_h0 h) (fun I_2 h => ?_)
  refine j_iload_n C d_MD_fill_4 rfl 1 rfl ?_
  refine j_iconst C d_MD_fill_5 ic_0 ?_
  refine j_aload_n C d_MD_fill_6 rfl 0 rfl ?_
  refine fg_MD_103 C g_h0 d_MD_fill_7 ?_
  refine j_iconst C d_MD_fill_10 ic_1 ?_
  refine j_isub C d_MD_fill_11 ?_
  refine j_callSi (As := [.int v1, .int (0 : Int32), .int ((I_2 h0 10) - (1 : Int32))]) C cw_MD_75 w_832 rfl rfl (by decide) (by decide) (Nat.le_of_ble_eq_true rfl) d_MD_fill_12 (s_MD_in C.ok  h) (fun r_3 I2 h => ?_)
  obtain ⟨rfl, h⟩ := h
  refine j_if_eq C d_MD_fill_15 (tgt := 27) (by decide) (fun c15 => ?_) (fun c15 => ?_)
  · have h := h.1 c15
    refine j_bipush C d_MD_fill_27 ib_m9 ?_
    exact j_iret C hr d_MD_fill_29 h
  · have h := h.2 c15
    refine j_aload_n C d_MD_fill_18 rfl 0 rfl ?_
    refine fg_MD_39 C g_h0 d_MD_fill_19 ?_
    refine j_iload_n C d_MD_fill_22 rfl 1 rfl ?_
    obtain ⟨hi, h⟩ := h
    refine j_iaload C (sh_MD_9 hE g_h0) hi d_MD_fill_23 ?_
    refine j_goto C d_MD_fill_24 (tgt := 29) (by decide) ?_
    exact j_iret C hr d_MD_fill_29 h
theorem d_MD_fills_0 : decode prog_14_method_28_code 0 = .ok (.aload_n 0, 1) := by decide +kernel
theorem d_MD_fills_1 : decode prog_14_method_28_code 1 = .ok (.invokevirtual 148, 3) := by decide +kernel
theorem d_MD_fills_4 : decode prog_14_method_28_code 4 = .ok (.aload_n 0, 1) := by decide +kernel
theorem d_MD_fills_5 : decode prog_14_method_28_code 5 = .ok (.getfield 103, 3) := by decide +kernel
theorem d_MD_fills_8 : decode prog_14_method_28_code 8 = .ok (.ireturn, 1) := by decide +kernel
/-- OutOrderModel.fills()I -/
def MD_fills (h0 : Nat) (I : jM) (K : Int32 → jM → Prop) : Prop :=
  MD_goThrough h0 I (fun I_2 => K (I_2 h0 10) I_2)
set_option maxRecDepth 100000 in
set_option maxHeartbeats 4000000 in
theorem s_MD_fills {l : Launch} {E : jE} (ok : jOK E) (hE : E.2.2.2 = jLM) {h0 : Nat} (g_h0 : jOB E 11 h0) {I : jM} {K : Int32 → jM → Prop} (h : MD_fills h0 I K) : jSi l E ⟨"OutOrderModel", "fills", "()I"⟩ prog_14_method_28_code 1 (some .int) 2 48 [.ref (E.2.2.1 h0)] I K := by
  refine jS_ofF (own := "OutOrderModel") (by decide +kernel) rfl ok (Nat.le_of_ble_eq_true rfl) (fun Z _ C hr => ?_)
  show jJ Z E 1 (jQi Z E K) 0 [(0, .ref (E.2.2.1 h0))] [] I
  unfold MD_fills at h
  refine j_aload_n C d_MD_fills_0 rfl 0 rfl ?_
  refine j_callVv (As := []) C jcl_MD cw_MD_148 w_901 ws_37 g_h0 rfl rfl (by decide) (by decide) (Nat.le_of_ble_eq_true rfl) d_MD_fills_1 (s_MD_goThrough C.ok hE g_h0 h) (fun I_2 h => ?_)
  refine j_aload_n C d_MD_fills_4 rfl 0 rfl ?_
  refine fg_MD_103 C g_h0 d_MD_fills_5 ?_
  exact j_iret C hr d_MD_fills_8 h
theorem d_MD_goneBits_0 : decode prog_14_method_40_code 0 = .ok (.iconst 0, 1) := by decide +kernel
theorem d_MD_goneBits_1 : decode prog_14_method_40_code 1 = .ok (.istore_n 1, 1) := by decide +kernel
theorem d_MD_goneBits_2 : decode prog_14_method_40_code 2 = .ok (.iconst 0, 1) := by decide +kernel
theorem d_MD_goneBits_3 : decode prog_14_method_40_code 3 = .ok (.istore_n 2, 1) := by decide +kernel
theorem d_MD_goneBits_4 : decode prog_14_method_40_code 4 = .ok (.iload_n 2, 1) := by decide +kernel
theorem d_MD_goneBits_5 : decode prog_14_method_40_code 5 = .ok (.aload_n 0, 1) := by decide +kernel
theorem d_MD_goneBits_6 : decode prog_14_method_40_code 6 = .ok (.getfield 161, 3) := by decide +kernel
theorem d_MD_goneBits_9 : decode prog_14_method_40_code 9 = .ok (.if_icmp .ge 20, 3) := by decide +kernel
theorem d_MD_goneBits_12 : decode prog_14_method_40_code 12 = .ok (.iload_n 1, 1) := by decide +kernel
theorem d_MD_goneBits_13 : decode prog_14_method_40_code 13 = .ok (.iconst 1, 1) := by decide +kernel
theorem d_MD_goneBits_14 : decode prog_14_method_40_code 14 = .ok (.aload_n 0, 1) := by decide +kernel
theorem d_MD_goneBits_15 : decode prog_14_method_40_code 15 = .ok (.getfield 51, 3) := by decide +kernel
theorem d_MD_goneBits_18 : decode prog_14_method_40_code 18 = .ok (.iload_n 2, 1) := by decide +kernel
theorem d_MD_goneBits_19 : decode prog_14_method_40_code 19 = .ok (.iaload, 1) := by decide +kernel
theorem d_MD_goneBits_20 : decode prog_14_method_40_code 20 = .ok (.ishl, 1) := by decide +kernel
theorem d_MD_goneBits_21 : decode prog_14_method_40_code 21 = .ok (.ior, 1) := by decide +kernel
theorem d_MD_goneBits_22 : decode prog_14_method_40_code 22 = .ok (.istore_n 1, 1) := by decide +kernel
theorem d_MD_goneBits_23 : decode prog_14_method_40_code 23 = .ok (.iinc 2 1, 3) := by decide +kernel
theorem d_MD_goneBits_26 : decode prog_14_method_40_code 26 = .ok (.goto (-22), 3) := by decide +kernel
theorem d_MD_goneBits_29 : decode prog_14_method_40_code 29 = .ok (.iload_n 1, 1) := by decide +kernel
theorem d_MD_goneBits_30 : decode prog_14_method_40_code 30 = .ok (.ireturn, 1) := by decide +kernel
def MD_goneBits_4b (h0 : Nat) (v1 : Int32) (v2 : Int32) (I : jM) (K : Int32 → Prop) (X4 : Int32 × Int32 → Prop) : Prop :=
  (((I h0 15) ≤ v2 → K v1) ∧ (¬ (I h0 15) ≤ v2 → (vp_in v2 24 ∧ (∀ v1_1 : Int32, v1_1 = (v1 ||| ((1 : Int32) <<< ((I (jr h0 14) v2.toNatClampNeg) &&& 31))) → X4 (v1_1, (v2 + 1))))))
def MD_goneBits_4 (h0 : Nat) (v1 : Int32) (v2 : Int32) (I : jM) (K : Int32 → Prop) : Prop :=
  lp (fun (X4 : Int32 × Int32 → Prop) (s : Int32 × Int32) => MD_goneBits_4b h0 s.1 s.2 I K X4) (v1, v2)
set_option maxRecDepth 100000 in
set_option maxHeartbeats 4000000 in
theorem kb_MD_goneBits_4 {Z : jZ} {E : jE} (C : jC Z E prog_14_method_40_code 3 "OutOrderModel" 0 0) (hr : (jZh Z).sig.returnType = (some .int)) (hE : E.2.2.2 = jLM)  (h0 : Nat) (v1 : Int32) (v2 : Int32) (I : jM) (g_h0 : jOB E 11 h0) {K : Int32 → Prop} {X4 : Int32 × Int32 → Prop} (hX4 : ∀ s : Int32 × Int32, X4 s → jJ Z E 3 (jQi Z E (fun r I2 => I = I2 ∧ K r)) 4 [(0, .ref (E.2.2.1 h0)), (1, .int s.1), (2, .int s.2)] [] I) (h : MD_goneBits_4b h0 v1 v2 I K X4) : jJ Z E 3 (jQi Z E (fun r I2 => I = I2 ∧ K r)) 4 [(0, .ref (E.2.2.1 h0)), (1, .int v1), (2, .int v2)] [] I := by
  unfold MD_goneBits_4b at h
  refine j_iload_n C d_MD_goneBits_4 rfl 2 rfl ?_
  refine j_aload_n C d_MD_goneBits_5 rfl 0 rfl ?_
  refine fg_MD_161 C g_h0 d_MD_goneBits_6 ?_
  refine j_icmp_ge C d_MD_goneBits_9 (tgt := 29) (by decide) (fun c9 => ?_) (fun c9 => ?_)
  · have h := h.1 c9
    refine j_iload_n C d_MD_goneBits_29 rfl 1 rfl ?_
    exact j_iret C hr d_MD_goneBits_30 ⟨rfl, h⟩
  · have h := h.2 c9
    refine j_iload_n C d_MD_goneBits_12 rfl 1 rfl ?_
    refine j_iconst C d_MD_goneBits_13 ic_1 ?_
    refine j_aload_n C d_MD_goneBits_14 rfl 0 rfl ?_
    refine fg_MD_51 C g_h0 d_MD_goneBits_15 ?_
    refine j_iload_n C d_MD_goneBits_18 rfl 2 rfl ?_
    obtain ⟨hi, h⟩ := h
    refine j_iaload C (sh_MD_14 hE g_h0) hi d_MD_goneBits_19 ?_
    refine j_ishl C d_MD_goneBits_20 ?_
    refine j_ior C d_MD_goneBits_21 ?_
    refine j_topi (fun v1_1 ev1_1 => ?_)
    have h := h v1_1 ev1_1
    refine j_istore_n C d_MD_goneBits_22 rfl (by decide) (lv' := [(1, .int v1_1), (0, .ref (E.2.2.1 h0)), (2, .int v2)]) rfl ?_
    refine j_iinc C d_MD_goneBits_23 2 rfl (v := (v2 + 1)) rfl (by decide) (lv' := [(2, .int (v2 + 1)), (1, .int v1_1), (0, .ref (E.2.2.1 h0))]) rfl ?_
    refine j_goto C d_MD_goneBits_26 (tgt := 4) (by decide) ?_
    refine j_lv [2, 1, 0] rfl ?_
    exact hX4 (v1_1, (v2 + 1)) h
theorem k_MD_goneBits_4 {Z : jZ} {E : jE} (C : jC Z E prog_14_method_40_code 3 "OutOrderModel" 0 0) (hr : (jZh Z).sig.returnType = (some .int)) (hE : E.2.2.2 = jLM)  (h0 : Nat) (v1 : Int32) (v2 : Int32) (I : jM) (g_h0 : jOB E 11 h0) {K : Int32 → Prop} (h : MD_goneBits_4 h0 v1 v2 I K) : jJ Z E 3 (jQi Z E (fun r I2 => I = I2 ∧ K r)) 4 [(0, .ref (E.2.2.1 h0)), (1, .int v1), (2, .int v2)] [] I := by
  unfold MD_goneBits_4 at h
  exact h (fun s => jJ Z E 3 (jQi Z E (fun r I2 => I = I2 ∧ K r)) 4 [(0, .ref (E.2.2.1 h0)), (1, .int s.1), (2, .int s.2)] [] I) (fun s hs => kb_MD_goneBits_4 C hr hE h0 s.1 s.2 I g_h0 (fun s2 h2 => h2) hs)
/-- OutOrderModel.goneBits()I -/
def MD_goneBits (h0 : Nat) (I : jM) (K : Int32 → Prop) : Prop :=
  MD_goneBits_4 h0 (0 : Int32) (0 : Int32) I K
set_option maxRecDepth 100000 in
set_option maxHeartbeats 4000000 in
theorem s_MD_goneBits {l : Launch} {E : jE} (ok : jOK E) (hE : E.2.2.2 = jLM) {h0 : Nat} (g_h0 : jOB E 11 h0) {I : jM} {K : Int32 → Prop} (h : MD_goneBits h0 I K) : jSi l E ⟨"OutOrderModel", "goneBits", "()I"⟩ prog_14_method_40_code 3 (some .int) 0 0 [.ref (E.2.2.1 h0)] I (fun r I2 => I = I2 ∧ K r) := by
  refine jS_ofF (own := "OutOrderModel") (by decide +kernel) rfl ok (Nat.le_of_ble_eq_true rfl) (fun Z _ C hr => ?_)
  show jJ Z E 3 (jQi Z E (fun r I2 => I = I2 ∧ K r)) 0 [(0, .ref (E.2.2.1 h0))] [] I
  unfold MD_goneBits at h
  refine j_iconst C d_MD_goneBits_0 ic_0 ?_
  refine j_istore_n C d_MD_goneBits_1 rfl (by decide) (lv' := [(1, .int (0 : Int32)), (0, .ref (E.2.2.1 h0))]) rfl ?_
  refine j_iconst C d_MD_goneBits_2 ic_0 ?_
  refine j_istore_n C d_MD_goneBits_3 rfl (by decide) (lv' := [(2, .int (0 : Int32)), (1, .int (0 : Int32)), (0, .ref (E.2.2.1 h0))]) rfl ?_
  refine j_lv [2, 1, 0] rfl ?_
  exact k_MD_goneBits_4 C hr hE h0 (0 : Int32) (0 : Int32) I g_h0 h
theorem d_MD_goingLacks_0 : decode prog_14_method_41_code 0 = .ok (.aload_n 0, 1) := by decide +kernel
theorem d_MD_goingLacks_1 : decode prog_14_method_41_code 1 = .ok (.iload_n 1, 1) := by decide +kernel
theorem d_MD_goingLacks_2 : decode prog_14_method_41_code 2 = .ok (.invokevirtual 90, 3) := by decide +kernel
theorem d_MD_goingLacks_5 : decode prog_14_method_41_code 5 = .ok (.ifCond .ne 7, 3) := by decide +kernel
theorem d_MD_goingLacks_8 : decode prog_14_method_41_code 8 = .ok (.iconst (-1), 1) := by decide +kernel
theorem d_MD_goingLacks_9 : decode prog_14_method_41_code 9 = .ok (.goto 21, 3) := by decide +kernel
theorem d_MD_goingLacks_12 : decode prog_14_method_41_code 12 = .ok (.aload_n 0, 1) := by decide +kernel
theorem d_MD_goingLacks_13 : decode prog_14_method_41_code 13 = .ok (.invokevirtual 164, 3) := by decide +kernel
theorem d_MD_goingLacks_16 : decode prog_14_method_41_code 16 = .ok (.iload_n 1, 1) := by decide +kernel
theorem d_MD_goingLacks_17 : decode prog_14_method_41_code 17 = .ok (.ishr, 1) := by decide +kernel
theorem d_MD_goingLacks_18 : decode prog_14_method_41_code 18 = .ok (.iconst 1, 1) := by decide +kernel
theorem d_MD_goingLacks_19 : decode prog_14_method_41_code 19 = .ok (.iand, 1) := by decide +kernel
theorem d_MD_goingLacks_20 : decode prog_14_method_41_code 20 = .ok (.iconst 1, 1) := by decide +kernel
theorem d_MD_goingLacks_21 : decode prog_14_method_41_code 21 = .ok (.if_icmp .ne 8, 3) := by decide +kernel
theorem d_MD_goingLacks_24 : decode prog_14_method_41_code 24 = .ok (.bipush (-3), 2) := by decide +kernel
theorem d_MD_goingLacks_26 : decode prog_14_method_41_code 26 = .ok (.goto 4, 3) := by decide +kernel
theorem d_MD_goingLacks_29 : decode prog_14_method_41_code 29 = .ok (.iconst 0, 1) := by decide +kernel
theorem d_MD_goingLacks_30 : decode prog_14_method_41_code 30 = .ok (.ireturn, 1) := by decide +kernel
/-- OutOrderModel.goingLacks(I)I -/
def MD_goingLacks (h0 : Nat) (v1 : Int32) (I : jM) (K : Int32 → Prop) : Prop :=
  MD_isUnknown h0 v1 I (fun r_1 => ((¬ r_1 = 0 → MD_goneBits h0 I (fun r_2 => ((¬ ((r_2 >>> (v1 &&& 31)) &&& (1 : Int32)) = (1 : Int32) → K (0 : Int32)) ∧ (((r_2 >>> (v1 &&& 31)) &&& (1 : Int32)) = (1 : Int32) → K (-3 : Int32))))) ∧ (r_1 = 0 → K (-1 : Int32))))
set_option maxRecDepth 100000 in
set_option maxHeartbeats 4000000 in
theorem s_MD_goingLacks {l : Launch} {E : jE} (ok : jOK E) (hE : E.2.2.2 = jLM) {h0 : Nat} {v1 : Int32} (g_h0 : jOB E 11 h0) {I : jM} {K : Int32 → Prop} (h : MD_goingLacks h0 v1 I K) : jSi l E ⟨"OutOrderModel", "goingLacks", "(I)I"⟩ prog_14_method_41_code 2 (some .int) 2 43 [.ref (E.2.2.1 h0), .int v1] I (fun r I2 => I = I2 ∧ K r) := by
  refine jS_ofF (own := "OutOrderModel") (by decide +kernel) rfl ok (Nat.le_of_ble_eq_true rfl) (fun Z _ C hr => ?_)
  show jJ Z E 2 (jQi Z E (fun r I2 => I = I2 ∧ K r)) 0 [(0, .ref (E.2.2.1 h0)), (1, .int v1)] [] I
  unfold MD_goingLacks at h
  refine j_aload_n C d_MD_goingLacks_0 rfl 0 rfl ?_
  refine j_iload_n C d_MD_goingLacks_1 rfl 1 rfl ?_
  refine j_callVi (As := [.int v1]) C jcl_MD cw_MD_90 w_829 ws_26 g_h0 rfl rfl (by decide) (by decide) (Nat.le_of_ble_eq_true rfl) d_MD_goingLacks_2 (s_MD_isUnknown C.ok g_h0 h) (fun r_1 I2 h => ?_)
  obtain ⟨rfl, h⟩ := h
  refine j_if_ne C d_MD_goingLacks_5 (tgt := 12) (by decide) (fun c5 => ?_) (fun c5 => ?_)
  · have h := h.1 c5
    refine j_aload_n C d_MD_goingLacks_12 rfl 0 rfl ?_
    refine j_callVi (As := []) C jcl_MD cw_MD_164 w_963 ws_42 g_h0 rfl rfl (by decide) (by decide) (Nat.le_of_ble_eq_true rfl) d_MD_goingLacks_13 (s_MD_goneBits C.ok hE g_h0 h) (fun r_2 I2 h => ?_)
    obtain ⟨rfl, h⟩ := h
    refine j_iload_n C d_MD_goingLacks_16 rfl 1 rfl ?_
    refine j_ishr C d_MD_goingLacks_17 ?_
    refine j_iconst C d_MD_goingLacks_18 ic_1 ?_
    refine j_iand C d_MD_goingLacks_19 ?_
    refine j_iconst C d_MD_goingLacks_20 ic_1 ?_
    refine j_icmp_ne C d_MD_goingLacks_21 (tgt := 29) (by decide) (fun c21 => ?_) (fun c21 => ?_)
    · have h := h.1 c21
      refine j_iconst C d_MD_goingLacks_29 ic_0 ?_
      exact j_iret C hr d_MD_goingLacks_30 ⟨rfl, h⟩
    · have h := h.2 c21
      refine j_bipush C d_MD_goingLacks_24 ib_m3 ?_
      refine j_goto C d_MD_goingLacks_26 (tgt := 30) (by decide) ?_
      exact j_iret C hr d_MD_goingLacks_30 ⟨rfl, h⟩
  · have h := h.2 c5
    refine j_iconst C d_MD_goingLacks_8 ic_m1 ?_
    refine j_goto C d_MD_goingLacks_9 (tgt := 30) (by decide) ?_
    exact j_iret C hr d_MD_goingLacks_30 ⟨rfl, h⟩
theorem d_MD_goingAround_0 : decode prog_14_method_42_code 0 = .ok (.aload_n 0, 1) := by decide +kernel
theorem d_MD_goingAround_1 : decode prog_14_method_42_code 1 = .ok (.getfield 57, 3) := by decide +kernel
theorem d_MD_goingAround_4 : decode prog_14_method_42_code 4 = .ok (.iload_n 1, 1) := by decide +kernel
theorem d_MD_goingAround_5 : decode prog_14_method_42_code 5 = .ok (.iaload, 1) := by decide +kernel
theorem d_MD_goingAround_6 : decode prog_14_method_42_code 6 = .ok (.aload_n 0, 1) := by decide +kernel
theorem d_MD_goingAround_7 : decode prog_14_method_42_code 7 = .ok (.invokevirtual 164, 3) := by decide +kernel
theorem d_MD_goingAround_10 : decode prog_14_method_42_code 10 = .ok (.iconst (-1), 1) := by decide +kernel
theorem d_MD_goingAround_11 : decode prog_14_method_42_code 11 = .ok (.ixor, 1) := by decide +kernel
theorem d_MD_goingAround_12 : decode prog_14_method_42_code 12 = .ok (.iand, 1) := by decide +kernel
theorem d_MD_goingAround_13 : decode prog_14_method_42_code 13 = .ok (.ireturn, 1) := by decide +kernel
/-- OutOrderModel.goingAround(I)I -/
def MD_goingAround (h0 : Nat) (v1 : Int32) (I : jM) (K : Int32 → Prop) : Prop :=
  (vp_in v1 24 ∧ MD_goneBits h0 I (fun r_1 => K ((I (jr h0 17) v1.toNatClampNeg) &&& (r_1 ^^^ (-1 : Int32)))))
set_option maxRecDepth 100000 in
set_option maxHeartbeats 4000000 in
theorem s_MD_goingAround {l : Launch} {E : jE} (ok : jOK E) (hE : E.2.2.2 = jLM) {h0 : Nat} {v1 : Int32} (g_h0 : jOB E 11 h0) {I : jM} {K : Int32 → Prop} (h : MD_goingAround h0 v1 I K) : jSi l E ⟨"OutOrderModel", "goingAround", "(I)I"⟩ prog_14_method_42_code 2 (some .int) 1 22 [.ref (E.2.2.1 h0), .int v1] I (fun r I2 => I = I2 ∧ K r) := by
  refine jS_ofF (own := "OutOrderModel") (by decide +kernel) rfl ok (Nat.le_of_ble_eq_true rfl) (fun Z _ C hr => ?_)
  show jJ Z E 2 (jQi Z E (fun r I2 => I = I2 ∧ K r)) 0 [(0, .ref (E.2.2.1 h0)), (1, .int v1)] [] I
  unfold MD_goingAround at h
  refine j_aload_n C d_MD_goingAround_0 rfl 0 rfl ?_
  refine fg_MD_57 C g_h0 d_MD_goingAround_1 ?_
  refine j_iload_n C d_MD_goingAround_4 rfl 1 rfl ?_
  obtain ⟨hi, h⟩ := h
  refine j_iaload C (sh_MD_17 hE g_h0) hi d_MD_goingAround_5 ?_
  refine j_aload_n C d_MD_goingAround_6 rfl 0 rfl ?_
  refine j_callVi (As := []) C jcl_MD cw_MD_164 w_963 ws_42 g_h0 rfl rfl (by decide) (by decide) (Nat.le_of_ble_eq_true rfl) d_MD_goingAround_7 (s_MD_goneBits C.ok hE g_h0 h) (fun r_1 I2 h => ?_)
  obtain ⟨rfl, h⟩ := h
  refine j_iconst C d_MD_goingAround_10 ic_m1 ?_
  refine j_ixor C d_MD_goingAround_11 ?_
  refine j_iand C d_MD_goingAround_12 ?_
  exact j_iret C hr d_MD_goingAround_13 ⟨rfl, h⟩
theorem d_MD_kindOf_0 : decode prog_14_method_44_code 0 = .ok (.aload_n 0, 1) := by decide +kernel
theorem d_MD_kindOf_1 : decode prog_14_method_44_code 1 = .ok (.invokevirtual 164, 3) := by decide +kernel
theorem d_MD_kindOf_4 : decode prog_14_method_44_code 4 = .ok (.istore_n 2, 1) := by decide +kernel
theorem d_MD_kindOf_5 : decode prog_14_method_44_code 5 = .ok (.aload_n 0, 1) := by decide +kernel
theorem d_MD_kindOf_6 : decode prog_14_method_44_code 6 = .ok (.iload_n 1, 1) := by decide +kernel
theorem d_MD_kindOf_7 : decode prog_14_method_44_code 7 = .ok (.invokevirtual 170, 3) := by decide +kernel
theorem d_MD_kindOf_10 : decode prog_14_method_44_code 10 = .ok (.istore_n 3, 1) := by decide +kernel
theorem d_MD_kindOf_11 : decode prog_14_method_44_code 11 = .ok (.iconst 0, 1) := by decide +kernel
theorem d_MD_kindOf_12 : decode prog_14_method_44_code 12 = .ok (.istore 4, 2) := by decide +kernel
theorem d_MD_kindOf_14 : decode prog_14_method_44_code 14 = .ok (.iload 4, 2) := by decide +kernel
theorem d_MD_kindOf_16 : decode prog_14_method_44_code 16 = .ok (.aload_n 0, 1) := by decide +kernel
theorem d_MD_kindOf_17 : decode prog_14_method_44_code 17 = .ok (.getfield 7, 3) := by decide +kernel
theorem d_MD_kindOf_20 : decode prog_14_method_44_code 20 = .ok (.if_icmp .ge 39, 3) := by decide +kernel
theorem d_MD_kindOf_23 : decode prog_14_method_44_code 23 = .ok (.aload_n 0, 1) := by decide +kernel
theorem d_MD_kindOf_24 : decode prog_14_method_44_code 24 = .ok (.getfield 20, 3) := by decide +kernel
theorem d_MD_kindOf_27 : decode prog_14_method_44_code 27 = .ok (.iload_n 1, 1) := by decide +kernel
theorem d_MD_kindOf_28 : decode prog_14_method_44_code 28 = .ok (.baload, 1) := by decide +kernel
theorem d_MD_kindOf_29 : decode prog_14_method_44_code 29 = .ok (.ifCond .eq 30, 3) := by decide +kernel
theorem d_MD_kindOf_32 : decode prog_14_method_44_code 32 = .ok (.aload_n 0, 1) := by decide +kernel
theorem d_MD_kindOf_33 : decode prog_14_method_44_code 33 = .ok (.getfield 20, 3) := by decide +kernel
theorem d_MD_kindOf_36 : decode prog_14_method_44_code 36 = .ok (.iload 4, 2) := by decide +kernel
theorem d_MD_kindOf_38 : decode prog_14_method_44_code 38 = .ok (.baload, 1) := by decide +kernel
theorem d_MD_kindOf_39 : decode prog_14_method_44_code 39 = .ok (.ifCond .ne 14, 3) := by decide +kernel
theorem d_MD_kindOf_42 : decode prog_14_method_44_code 42 = .ok (.iload_n 2, 1) := by decide +kernel
theorem d_MD_kindOf_43 : decode prog_14_method_44_code 43 = .ok (.iload 4, 2) := by decide +kernel
theorem d_MD_kindOf_45 : decode prog_14_method_44_code 45 = .ok (.ishr, 1) := by decide +kernel
theorem d_MD_kindOf_46 : decode prog_14_method_44_code 46 = .ok (.iconst 1, 1) := by decide +kernel
theorem d_MD_kindOf_47 : decode prog_14_method_44_code 47 = .ok (.iand, 1) := by decide +kernel
theorem d_MD_kindOf_48 : decode prog_14_method_44_code 48 = .ok (.ifCond .ne 5, 3) := by decide +kernel
theorem d_MD_kindOf_51 : decode prog_14_method_44_code 51 = .ok (.iconst 4, 1) := by decide +kernel
theorem d_MD_kindOf_52 : decode prog_14_method_44_code 52 = .ok (.ireturn, 1) := by decide +kernel
theorem d_MD_kindOf_53 : decode prog_14_method_44_code 53 = .ok (.iinc 4 1, 3) := by decide +kernel
theorem d_MD_kindOf_56 : decode prog_14_method_44_code 56 = .ok (.goto (-42), 3) := by decide +kernel
theorem d_MD_kindOf_59 : decode prog_14_method_44_code 59 = .ok (.iload_n 3, 1) := by decide +kernel
theorem d_MD_kindOf_60 : decode prog_14_method_44_code 60 = .ok (.ifCond .ne 5, 3) := by decide +kernel
theorem d_MD_kindOf_63 : decode prog_14_method_44_code 63 = .ok (.iconst 3, 1) := by decide +kernel
theorem d_MD_kindOf_64 : decode prog_14_method_44_code 64 = .ok (.ireturn, 1) := by decide +kernel
theorem d_MD_kindOf_65 : decode prog_14_method_44_code 65 = .ok (.iconst 0, 1) := by decide +kernel
theorem d_MD_kindOf_66 : decode prog_14_method_44_code 66 = .ok (.istore 4, 2) := by decide +kernel
theorem d_MD_kindOf_68 : decode prog_14_method_44_code 68 = .ok (.iload 4, 2) := by decide +kernel
theorem d_MD_kindOf_70 : decode prog_14_method_44_code 70 = .ok (.iload_n 1, 1) := by decide +kernel
theorem d_MD_kindOf_71 : decode prog_14_method_44_code 71 = .ok (.if_icmp .ge 44, 3) := by decide +kernel
theorem d_MD_kindOf_74 : decode prog_14_method_44_code 74 = .ok (.iload_n 3, 1) := by decide +kernel
theorem d_MD_kindOf_75 : decode prog_14_method_44_code 75 = .ok (.iload 4, 2) := by decide +kernel
theorem d_MD_kindOf_77 : decode prog_14_method_44_code 77 = .ok (.ishr, 1) := by decide +kernel
theorem d_MD_kindOf_78 : decode prog_14_method_44_code 78 = .ok (.iconst 1, 1) := by decide +kernel
theorem d_MD_kindOf_79 : decode prog_14_method_44_code 79 = .ok (.iand, 1) := by decide +kernel
theorem d_MD_kindOf_80 : decode prog_14_method_44_code 80 = .ok (.iconst 1, 1) := by decide +kernel
theorem d_MD_kindOf_81 : decode prog_14_method_44_code 81 = .ok (.if_icmp .ne 28, 3) := by decide +kernel
theorem d_MD_kindOf_84 : decode prog_14_method_44_code 84 = .ok (.iload_n 3, 1) := by decide +kernel
theorem d_MD_kindOf_85 : decode prog_14_method_44_code 85 = .ok (.iconst 1, 1) := by decide +kernel
theorem d_MD_kindOf_86 : decode prog_14_method_44_code 86 = .ok (.iload 4, 2) := by decide +kernel
theorem d_MD_kindOf_88 : decode prog_14_method_44_code 88 = .ok (.ishl, 1) := by decide +kernel
theorem d_MD_kindOf_89 : decode prog_14_method_44_code 89 = .ok (.iconst (-1), 1) := by decide +kernel
theorem d_MD_kindOf_90 : decode prog_14_method_44_code 90 = .ok (.ixor, 1) := by decide +kernel
theorem d_MD_kindOf_91 : decode prog_14_method_44_code 91 = .ok (.iand, 1) := by decide +kernel
theorem d_MD_kindOf_92 : decode prog_14_method_44_code 92 = .ok (.aload_n 0, 1) := by decide +kernel
theorem d_MD_kindOf_93 : decode prog_14_method_44_code 93 = .ok (.iload 4, 2) := by decide +kernel
theorem d_MD_kindOf_95 : decode prog_14_method_44_code 95 = .ok (.invokevirtual 170, 3) := by decide +kernel
theorem d_MD_kindOf_98 : decode prog_14_method_44_code 98 = .ok (.iconst 1, 1) := by decide +kernel
theorem d_MD_kindOf_99 : decode prog_14_method_44_code 99 = .ok (.iload_n 1, 1) := by decide +kernel
theorem d_MD_kindOf_100 : decode prog_14_method_44_code 100 = .ok (.ishl, 1) := by decide +kernel
theorem d_MD_kindOf_101 : decode prog_14_method_44_code 101 = .ok (.iconst (-1), 1) := by decide +kernel
theorem d_MD_kindOf_102 : decode prog_14_method_44_code 102 = .ok (.ixor, 1) := by decide +kernel
theorem d_MD_kindOf_103 : decode prog_14_method_44_code 103 = .ok (.iand, 1) := by decide +kernel
theorem d_MD_kindOf_104 : decode prog_14_method_44_code 104 = .ok (.if_icmp .ne 5, 3) := by decide +kernel
theorem d_MD_kindOf_107 : decode prog_14_method_44_code 107 = .ok (.iconst 2, 1) := by decide +kernel
theorem d_MD_kindOf_108 : decode prog_14_method_44_code 108 = .ok (.ireturn, 1) := by decide +kernel
theorem d_MD_kindOf_109 : decode prog_14_method_44_code 109 = .ok (.iinc 4 1, 3) := by decide +kernel
theorem d_MD_kindOf_112 : decode prog_14_method_44_code 112 = .ok (.goto (-44), 3) := by decide +kernel
theorem d_MD_kindOf_115 : decode prog_14_method_44_code 115 = .ok (.aload_n 0, 1) := by decide +kernel
theorem d_MD_kindOf_116 : decode prog_14_method_44_code 116 = .ok (.getfield 57, 3) := by decide +kernel
theorem d_MD_kindOf_119 : decode prog_14_method_44_code 119 = .ok (.iload_n 3, 1) := by decide +kernel
theorem d_MD_kindOf_120 : decode prog_14_method_44_code 120 = .ok (.invokestatic 110, 3) := by decide +kernel
theorem d_MD_kindOf_123 : decode prog_14_method_44_code 123 = .ok (.ifCond .ne 7, 3) := by decide +kernel
theorem d_MD_kindOf_126 : decode prog_14_method_44_code 126 = .ok (.iconst 1, 1) := by decide +kernel
theorem d_MD_kindOf_127 : decode prog_14_method_44_code 127 = .ok (.goto 4, 3) := by decide +kernel
theorem d_MD_kindOf_130 : decode prog_14_method_44_code 130 = .ok (.iconst 0, 1) := by decide +kernel
theorem d_MD_kindOf_131 : decode prog_14_method_44_code 131 = .ok (.ireturn, 1) := by decide +kernel
def MD_kindOf_68b (h0 : Nat) (v1 : Int32) (v3 : Int32) (v4 : Int32) (I : jM) (K : Int32 → Prop) (X68 : Int32 → Prop) : Prop :=
  ((v1 ≤ v4 → MD_fillsOf (jr h0 17) v3 I (fun r_1 => ((¬ r_1 = 0 → K (0 : Int32)) ∧ (r_1 = 0 → K (1 : Int32))))) ∧ (¬ v1 ≤ v4 → ((¬ ((v3 >>> (v4 &&& 31)) &&& (1 : Int32)) = (1 : Int32) → X68 (v4 + 1)) ∧ (((v3 >>> (v4 &&& 31)) &&& (1 : Int32)) = (1 : Int32) → MD_goingAround h0 v4 I (fun r_2 => ((¬ (v3 &&& (((1 : Int32) <<< (v4 &&& 31)) ^^^ (-1 : Int32))) = (r_2 &&& (((1 : Int32) <<< (v1 &&& 31)) ^^^ (-1 : Int32))) → X68 (v4 + 1)) ∧ ((v3 &&& (((1 : Int32) <<< (v4 &&& 31)) ^^^ (-1 : Int32))) = (r_2 &&& (((1 : Int32) <<< (v1 &&& 31)) ^^^ (-1 : Int32))) → K (2 : Int32))))))))
def MD_kindOf_68 (h0 : Nat) (v1 : Int32) (v3 : Int32) (v4 : Int32) (I : jM) (K : Int32 → Prop) : Prop :=
  lp (fun (X68 : Int32 → Prop) (s : Int32) => MD_kindOf_68b h0 v1 v3 s I K X68) v4
set_option maxRecDepth 100000 in
set_option maxHeartbeats 4000000 in
theorem kb_MD_kindOf_68 {Z : jZ} {E : jE} (C : jC Z E prog_14_method_44_code 5 "OutOrderModel" 2 45) (hr : (jZh Z).sig.returnType = (some .int)) (hE : E.2.2.2 = jLM)  (h0 : Nat) (v1 : Int32) (v3 : Int32) (v4 : Int32) (I : jM) (g_h0 : jOB E 11 h0) {K : Int32 → Prop} {X68 : Int32 → Prop} (hX68 : ∀ s : Int32, X68 s → jJ Z E 5 (jQi Z E (fun r I2 => I = I2 ∧ K r)) 68 [(0, .ref (E.2.2.1 h0)), (1, .int v1), (3, .int v3), (4, .int s)] [] I) (h : MD_kindOf_68b h0 v1 v3 v4 I K X68) : jJ Z E 5 (jQi Z E (fun r I2 => I = I2 ∧ K r)) 68 [(0, .ref (E.2.2.1 h0)), (1, .int v1), (3, .int v3), (4, .int v4)] [] I := by
  unfold MD_kindOf_68b at h
  refine j_iload C d_MD_kindOf_68 3 rfl ?_
  refine j_iload_n C d_MD_kindOf_70 rfl 1 rfl ?_
  refine j_icmp_ge C d_MD_kindOf_71 (tgt := 115) (by decide) (fun c71 => ?_) (fun c71 => ?_)
  · have h := h.1 c71
    refine j_aload_n C d_MD_kindOf_115 rfl 0 rfl ?_
    refine fg_MD_57 C g_h0 d_MD_kindOf_116 ?_
    refine j_iload_n C d_MD_kindOf_119 rfl 2 rfl ?_
    refine j_callSi (As := [.ref (E.2.2.1 (jr h0 17)), .int v3]) C cw_MD_110 w_863 rfl rfl (by decide) (by decide) (Nat.le_of_ble_eq_true rfl) d_MD_kindOf_120 (s_MD_fillsOf C.ok (((sh_MD_17 hE g_h0)).self) h) (fun r_1 I2 h => ?_)
    obtain ⟨rfl, h⟩ := h
    refine j_if_ne C d_MD_kindOf_123 (tgt := 130) (by decide) (fun c123 => ?_) (fun c123 => ?_)
    · have h := h.1 c123
      refine j_iconst C d_MD_kindOf_130 ic_0 ?_
      exact j_iret C hr d_MD_kindOf_131 ⟨rfl, h⟩
    · have h := h.2 c123
      refine j_iconst C d_MD_kindOf_126 ic_1 ?_
      refine j_goto C d_MD_kindOf_127 (tgt := 131) (by decide) ?_
      exact j_iret C hr d_MD_kindOf_131 ⟨rfl, h⟩
  · have h := h.2 c71
    refine j_iload_n C d_MD_kindOf_74 rfl 2 rfl ?_
    refine j_iload C d_MD_kindOf_75 3 rfl ?_
    refine j_ishr C d_MD_kindOf_77 ?_
    refine j_iconst C d_MD_kindOf_78 ic_1 ?_
    refine j_iand C d_MD_kindOf_79 ?_
    refine j_iconst C d_MD_kindOf_80 ic_1 ?_
    refine j_icmp_ne C d_MD_kindOf_81 (tgt := 109) (by decide) (fun c81 => ?_) (fun c81 => ?_)
    · have h := h.1 c81
      refine j_iinc C d_MD_kindOf_109 3 rfl (v := (v4 + 1)) rfl (by decide) (lv' := [(4, .int (v4 + 1)), (0, .ref (E.2.2.1 h0)), (1, .int v1), (3, .int v3)]) rfl ?_
      refine j_goto C d_MD_kindOf_112 (tgt := 68) (by decide) ?_
      refine j_lv [1, 2, 3, 0] rfl ?_
      exact hX68 (v4 + 1) h
    · have h := h.2 c81
      refine j_iload_n C d_MD_kindOf_84 rfl 2 rfl ?_
      refine j_iconst C d_MD_kindOf_85 ic_1 ?_
      refine j_iload C d_MD_kindOf_86 3 rfl ?_
      refine j_ishl C d_MD_kindOf_88 ?_
      refine j_iconst C d_MD_kindOf_89 ic_m1 ?_
      refine j_ixor C d_MD_kindOf_90 ?_
      refine j_iand C d_MD_kindOf_91 ?_
      refine j_aload_n C d_MD_kindOf_92 rfl 0 rfl ?_
      refine j_iload C d_MD_kindOf_93 3 rfl ?_
      refine j_callVi (As := [.int v4]) C jcl_MD cw_MD_170 w_967 ws_43 g_h0 rfl rfl (by decide) (by decide) (Nat.le_of_ble_eq_true rfl) d_MD_kindOf_95 (s_MD_goingAround C.ok hE g_h0 h) (fun r_2 I2 h => ?_)
      obtain ⟨rfl, h⟩ := h
      refine j_iconst C d_MD_kindOf_98 ic_1 ?_
      refine j_iload_n C d_MD_kindOf_99 rfl 1 rfl ?_
      refine j_ishl C d_MD_kindOf_100 ?_
      refine j_iconst C d_MD_kindOf_101 ic_m1 ?_
      refine j_ixor C d_MD_kindOf_102 ?_
      refine j_iand C d_MD_kindOf_103 ?_
      refine j_icmp_ne C d_MD_kindOf_104 (tgt := 109) (by decide) (fun c104 => ?_) (fun c104 => ?_)
      · have h := h.1 c104
        refine j_iinc C d_MD_kindOf_109 3 rfl (v := (v4 + 1)) rfl (by decide) (lv' := [(4, .int (v4 + 1)), (0, .ref (E.2.2.1 h0)), (1, .int v1), (3, .int v3)]) rfl ?_
        refine j_goto C d_MD_kindOf_112 (tgt := 68) (by decide) ?_
        refine j_lv [1, 2, 3, 0] rfl ?_
        exact hX68 (v4 + 1) h
      · have h := h.2 c104
        refine j_iconst C d_MD_kindOf_107 ic_2 ?_
        exact j_iret C hr d_MD_kindOf_108 ⟨rfl, h⟩
theorem k_MD_kindOf_68 {Z : jZ} {E : jE} (C : jC Z E prog_14_method_44_code 5 "OutOrderModel" 2 45) (hr : (jZh Z).sig.returnType = (some .int)) (hE : E.2.2.2 = jLM)  (h0 : Nat) (v1 : Int32) (v3 : Int32) (v4 : Int32) (I : jM) (g_h0 : jOB E 11 h0) {K : Int32 → Prop} (h : MD_kindOf_68 h0 v1 v3 v4 I K) : jJ Z E 5 (jQi Z E (fun r I2 => I = I2 ∧ K r)) 68 [(0, .ref (E.2.2.1 h0)), (1, .int v1), (3, .int v3), (4, .int v4)] [] I := by
  unfold MD_kindOf_68 at h
  exact h (fun s => jJ Z E 5 (jQi Z E (fun r I2 => I = I2 ∧ K r)) 68 [(0, .ref (E.2.2.1 h0)), (1, .int v1), (3, .int v3), (4, .int s)] [] I) (fun s hs => kb_MD_kindOf_68 C hr hE h0 v1 v3 s I g_h0 (fun s2 h2 => h2) hs)
def MD_kindOf_59 (h0 : Nat) (v1 : Int32) (v3 : Int32) (I : jM) (K : Int32 → Prop) : Prop :=
  ((¬ v3 = 0 → MD_kindOf_68 h0 v1 v3 (0 : Int32) I K) ∧ (v3 = 0 → K (3 : Int32)))
set_option maxRecDepth 100000 in
set_option maxHeartbeats 4000000 in
theorem k_MD_kindOf_59 {Z : jZ} {E : jE} (C : jC Z E prog_14_method_44_code 5 "OutOrderModel" 2 45) (hr : (jZh Z).sig.returnType = (some .int)) (hE : E.2.2.2 = jLM)  (h0 : Nat) (v1 : Int32) (v3 : Int32) (I : jM) (g_h0 : jOB E 11 h0) {K : Int32 → Prop} (h : MD_kindOf_59 h0 v1 v3 I K) : jJ Z E 5 (jQi Z E (fun r I2 => I = I2 ∧ K r)) 59 [(0, .ref (E.2.2.1 h0)), (1, .int v1), (3, .int v3)] [] I := by
  unfold MD_kindOf_59 at h
  refine j_iload_n C d_MD_kindOf_59 rfl 2 rfl ?_
  refine j_if_ne C d_MD_kindOf_60 (tgt := 65) (by decide) (fun c60 => ?_) (fun c60 => ?_)
  · have h := h.1 c60
    refine j_iconst C d_MD_kindOf_65 ic_0 ?_
    refine j_istore C d_MD_kindOf_66 (by decide) (lv' := [(4, .int (0 : Int32)), (0, .ref (E.2.2.1 h0)), (1, .int v1), (3, .int v3)]) rfl ?_
    refine j_lv [1, 2, 3, 0] rfl ?_
    exact k_MD_kindOf_68 C hr hE h0 v1 v3 (0 : Int32) I g_h0 h
  · have h := h.2 c60
    refine j_iconst C d_MD_kindOf_63 ic_3 ?_
    exact j_iret C hr d_MD_kindOf_64 ⟨rfl, h⟩
def MD_kindOf_14b (h0 : Nat) (v1 : Int32) (v2 : Int32) (v3 : Int32) (v4 : Int32) (I : jM) (K : Int32 → Prop) (X14 : Int32 → Prop) : Prop :=
  (((I h0 0) ≤ v4 → MD_kindOf_59 h0 v1 v3 I K) ∧ (¬ (I h0 0) ≤ v4 → (vp_in v1 24 ∧ (((I (jr h0 3) v1.toNatClampNeg) = 0 → MD_kindOf_59 h0 v1 v3 I K) ∧ (¬ (I (jr h0 3) v1.toNatClampNeg) = 0 → (vp_in v4 24 ∧ ((¬ (I (jr h0 3) v4.toNatClampNeg) = 0 → X14 (v4 + 1)) ∧ ((I (jr h0 3) v4.toNatClampNeg) = 0 → ((¬ ((v2 >>> (v4 &&& 31)) &&& (1 : Int32)) = 0 → X14 (v4 + 1)) ∧ (((v2 >>> (v4 &&& 31)) &&& (1 : Int32)) = 0 → K (4 : Int32)))))))))))
def MD_kindOf_14 (h0 : Nat) (v1 : Int32) (v2 : Int32) (v3 : Int32) (v4 : Int32) (I : jM) (K : Int32 → Prop) : Prop :=
  lp (fun (X14 : Int32 → Prop) (s : Int32) => MD_kindOf_14b h0 v1 v2 v3 s I K X14) v4
set_option maxRecDepth 100000 in
set_option maxHeartbeats 4000000 in
theorem kb_MD_kindOf_14 {Z : jZ} {E : jE} (C : jC Z E prog_14_method_44_code 5 "OutOrderModel" 2 45) (hr : (jZh Z).sig.returnType = (some .int)) (hE : E.2.2.2 = jLM)  (h0 : Nat) (v1 : Int32) (v2 : Int32) (v3 : Int32) (v4 : Int32) (I : jM) (g_h0 : jOB E 11 h0) {K : Int32 → Prop} {X14 : Int32 → Prop} (hX14 : ∀ s : Int32, X14 s → jJ Z E 5 (jQi Z E (fun r I2 => I = I2 ∧ K r)) 14 [(0, .ref (E.2.2.1 h0)), (1, .int v1), (2, .int v2), (3, .int v3), (4, .int s)] [] I) (h : MD_kindOf_14b h0 v1 v2 v3 v4 I K X14) : jJ Z E 5 (jQi Z E (fun r I2 => I = I2 ∧ K r)) 14 [(0, .ref (E.2.2.1 h0)), (1, .int v1), (2, .int v2), (3, .int v3), (4, .int v4)] [] I := by
  unfold MD_kindOf_14b at h
  refine j_iload C d_MD_kindOf_14 4 rfl ?_
  refine j_aload_n C d_MD_kindOf_16 rfl 0 rfl ?_
  refine fg_MD_7 C g_h0 d_MD_kindOf_17 ?_
  refine j_icmp_ge C d_MD_kindOf_20 (tgt := 59) (by decide) (fun c20 => ?_) (fun c20 => ?_)
  · have h := h.1 c20
    refine j_lv [0, 1, 3] rfl ?_
    exact k_MD_kindOf_59 C hr hE h0 v1 v3 I g_h0 h
  · have h := h.2 c20
    refine j_aload_n C d_MD_kindOf_23 rfl 0 rfl ?_
    refine fg_MD_20 C g_h0 d_MD_kindOf_24 ?_
    refine j_iload_n C d_MD_kindOf_27 rfl 1 rfl ?_
    obtain ⟨hi, h⟩ := h
    refine j_zaload C (sh_MD_3 hE g_h0) hi d_MD_kindOf_28 ?_
    refine j_if_eq C d_MD_kindOf_29 (tgt := 59) (by decide) (fun c29 => ?_) (fun c29 => ?_)
    · have h := h.1 c29
      refine j_lv [0, 1, 3] rfl ?_
      exact k_MD_kindOf_59 C hr hE h0 v1 v3 I g_h0 h
    · have h := h.2 c29
      refine j_aload_n C d_MD_kindOf_32 rfl 0 rfl ?_
      refine fg_MD_20 C g_h0 d_MD_kindOf_33 ?_
      refine j_iload C d_MD_kindOf_36 4 rfl ?_
      obtain ⟨hi, h⟩ := h
      refine j_zaload C (sh_MD_3 hE g_h0) hi d_MD_kindOf_38 ?_
      refine j_if_ne C d_MD_kindOf_39 (tgt := 53) (by decide) (fun c39 => ?_) (fun c39 => ?_)
      · have h := h.1 c39
        refine j_iinc C d_MD_kindOf_53 4 rfl (v := (v4 + 1)) rfl (by decide) (lv' := [(4, .int (v4 + 1)), (0, .ref (E.2.2.1 h0)), (1, .int v1), (2, .int v2), (3, .int v3)]) rfl ?_
        refine j_goto C d_MD_kindOf_56 (tgt := 14) (by decide) ?_
        refine j_lv [1, 2, 3, 4, 0] rfl ?_
        exact hX14 (v4 + 1) h
      · have h := h.2 c39
        refine j_iload_n C d_MD_kindOf_42 rfl 2 rfl ?_
        refine j_iload C d_MD_kindOf_43 4 rfl ?_
        refine j_ishr C d_MD_kindOf_45 ?_
        refine j_iconst C d_MD_kindOf_46 ic_1 ?_
        refine j_iand C d_MD_kindOf_47 ?_
        refine j_if_ne C d_MD_kindOf_48 (tgt := 53) (by decide) (fun c48 => ?_) (fun c48 => ?_)
        · have h := h.1 c48
          refine j_iinc C d_MD_kindOf_53 4 rfl (v := (v4 + 1)) rfl (by decide) (lv' := [(4, .int (v4 + 1)), (0, .ref (E.2.2.1 h0)), (1, .int v1), (2, .int v2), (3, .int v3)]) rfl ?_
          refine j_goto C d_MD_kindOf_56 (tgt := 14) (by decide) ?_
          refine j_lv [1, 2, 3, 4, 0] rfl ?_
          exact hX14 (v4 + 1) h
        · have h := h.2 c48
          refine j_iconst C d_MD_kindOf_51 ic_4 ?_
          exact j_iret C hr d_MD_kindOf_52 ⟨rfl, h⟩
theorem k_MD_kindOf_14 {Z : jZ} {E : jE} (C : jC Z E prog_14_method_44_code 5 "OutOrderModel" 2 45) (hr : (jZh Z).sig.returnType = (some .int)) (hE : E.2.2.2 = jLM)  (h0 : Nat) (v1 : Int32) (v2 : Int32) (v3 : Int32) (v4 : Int32) (I : jM) (g_h0 : jOB E 11 h0) {K : Int32 → Prop} (h : MD_kindOf_14 h0 v1 v2 v3 v4 I K) : jJ Z E 5 (jQi Z E (fun r I2 => I = I2 ∧ K r)) 14 [(0, .ref (E.2.2.1 h0)), (1, .int v1), (2, .int v2), (3, .int v3), (4, .int v4)] [] I := by
  unfold MD_kindOf_14 at h
  exact h (fun s => jJ Z E 5 (jQi Z E (fun r I2 => I = I2 ∧ K r)) 14 [(0, .ref (E.2.2.1 h0)), (1, .int v1), (2, .int v2), (3, .int v3), (4, .int s)] [] I) (fun s hs => kb_MD_kindOf_14 C hr hE h0 v1 v2 v3 s I g_h0 (fun s2 h2 => h2) hs)
/-- OutOrderModel.kindOf(I)I -/
def MD_kindOf (h0 : Nat) (v1 : Int32) (I : jM) (K : Int32 → Prop) : Prop :=
  MD_goneBits h0 I (fun r_1 => MD_goingAround h0 v1 I (fun r_2 => MD_kindOf_14 h0 v1 r_1 r_2 (0 : Int32) I K))
set_option maxRecDepth 100000 in
set_option maxHeartbeats 4000000 in
theorem s_MD_kindOf {l : Launch} {E : jE} (ok : jOK E) (hE : E.2.2.2 = jLM) {h0 : Nat} {v1 : Int32} (g_h0 : jOB E 11 h0) {I : jM} {K : Int32 → Prop} (h : MD_kindOf h0 v1 I K) : jSi l E ⟨"OutOrderModel", "kindOf", "(I)I"⟩ prog_14_method_44_code 5 (some .int) 2 45 [.ref (E.2.2.1 h0), .int v1] I (fun r I2 => I = I2 ∧ K r) := by
  refine jS_ofF (own := "OutOrderModel") (by decide +kernel) rfl ok (Nat.le_of_ble_eq_true rfl) (fun Z _ C hr => ?_)
  show jJ Z E 5 (jQi Z E (fun r I2 => I = I2 ∧ K r)) 0 [(0, .ref (E.2.2.1 h0)), (1, .int v1)] [] I
  unfold MD_kindOf at h
  refine j_aload_n C d_MD_kindOf_0 rfl 0 rfl ?_
  refine j_callVi (As := []) C jcl_MD cw_MD_164 w_963 ws_42 g_h0 rfl rfl (by decide) (by decide) (Nat.le_of_ble_eq_true rfl) d_MD_kindOf_1 (s_MD_goneBits C.ok hE g_h0 h) (fun r_1 I2 h => ?_)
  obtain ⟨rfl, h⟩ := h
  refine j_istore_n C d_MD_kindOf_4 rfl (by decide) (lv' := [(2, .int r_1), (0, .ref (E.2.2.1 h0)), (1, .int v1)]) rfl ?_
  refine j_aload_n C d_MD_kindOf_5 rfl 1 rfl ?_
  refine j_iload_n C d_MD_kindOf_6 rfl 2 rfl ?_
  refine j_callVi (As := [.int v1]) C jcl_MD cw_MD_170 w_967 ws_43 g_h0 rfl rfl (by decide) (by decide) (Nat.le_of_ble_eq_true rfl) d_MD_kindOf_7 (s_MD_goingAround C.ok hE g_h0 h) (fun r_2 I2 h => ?_)
  obtain ⟨rfl, h⟩ := h
  refine j_istore_n C d_MD_kindOf_10 rfl (by decide) (lv' := [(3, .int r_2), (2, .int r_1), (0, .ref (E.2.2.1 h0)), (1, .int v1)]) rfl ?_
  refine j_iconst C d_MD_kindOf_11 ic_0 ?_
  refine j_istore C d_MD_kindOf_12 (by decide) (lv' := [(4, .int (0 : Int32)), (3, .int r_2), (2, .int r_1), (0, .ref (E.2.2.1 h0)), (1, .int v1)]) rfl ?_
  refine j_lv [3, 4, 2, 1, 0] rfl ?_
  exact k_MD_kindOf_14 C hr hE h0 v1 r_1 r_2 (0 : Int32) I g_h0 h
theorem d_MD_going_0 : decode prog_14_method_45_code 0 = .ok (.aload_n 0, 1) := by decide +kernel
theorem d_MD_going_1 : decode prog_14_method_45_code 1 = .ok (.iload_n 1, 1) := by decide +kernel
theorem d_MD_going_2 : decode prog_14_method_45_code 2 = .ok (.invokevirtual 167, 3) := by decide +kernel
theorem d_MD_going_5 : decode prog_14_method_45_code 5 = .ok (.istore_n 3, 1) := by decide +kernel
theorem d_MD_going_6 : decode prog_14_method_45_code 6 = .ok (.iload_n 3, 1) := by decide +kernel
theorem d_MD_going_7 : decode prog_14_method_45_code 7 = .ok (.ifCond .ge 9, 3) := by decide +kernel
theorem d_MD_going_10 : decode prog_14_method_45_code 10 = .ok (.aload_n 0, 1) := by decide +kernel
theorem d_MD_going_11 : decode prog_14_method_45_code 11 = .ok (.iload_n 3, 1) := by decide +kernel
theorem d_MD_going_12 : decode prog_14_method_45_code 12 = .ok (.invokevirtual 79, 3) := by decide +kernel
theorem d_MD_going_15 : decode prog_14_method_45_code 15 = .ok (.ireturn, 1) := by decide +kernel
theorem d_MD_going_16 : decode prog_14_method_45_code 16 = .ok (.aload_n 0, 1) := by decide +kernel
theorem d_MD_going_17 : decode prog_14_method_45_code 17 = .ok (.iload_n 1, 1) := by decide +kernel
theorem d_MD_going_18 : decode prog_14_method_45_code 18 = .ok (.invokevirtual 170, 3) := by decide +kernel
theorem d_MD_going_21 : decode prog_14_method_45_code 21 = .ok (.istore 4, 2) := by decide +kernel
theorem d_MD_going_23 : decode prog_14_method_45_code 23 = .ok (.iload_n 2, 1) := by decide +kernel
theorem d_MD_going_24 : decode prog_14_method_45_code 24 = .ok (.ifCond .ne 11, 3) := by decide +kernel
theorem d_MD_going_27 : decode prog_14_method_45_code 27 = .ok (.aload_n 0, 1) := by decide +kernel
theorem d_MD_going_28 : decode prog_14_method_45_code 28 = .ok (.iload_n 1, 1) := by decide +kernel
theorem d_MD_going_29 : decode prog_14_method_45_code 29 = .ok (.invokevirtual 173, 3) := by decide +kernel
theorem d_MD_going_32 : decode prog_14_method_45_code 32 = .ok (.goto 45, 3) := by decide +kernel
theorem d_MD_going_35 : decode prog_14_method_45_code 35 = .ok (.iload_n 2, 1) := by decide +kernel
theorem d_MD_going_36 : decode prog_14_method_45_code 36 = .ok (.iconst 1, 1) := by decide +kernel
theorem d_MD_going_37 : decode prog_14_method_45_code 37 = .ok (.if_icmp .ne 11, 3) := by decide +kernel
theorem d_MD_going_40 : decode prog_14_method_45_code 40 = .ok (.iload 4, 2) := by decide +kernel
theorem d_MD_going_42 : decode prog_14_method_45_code 42 = .ok (.invokestatic 98, 3) := by decide +kernel
theorem d_MD_going_45 : decode prog_14_method_45_code 45 = .ok (.goto 32, 3) := by decide +kernel
theorem d_MD_going_48 : decode prog_14_method_45_code 48 = .ok (.iload_n 2, 1) := by decide +kernel
theorem d_MD_going_49 : decode prog_14_method_45_code 49 = .ok (.iconst 2, 1) := by decide +kernel
theorem d_MD_going_50 : decode prog_14_method_45_code 50 = .ok (.if_icmp .ne 8, 3) := by decide +kernel
theorem d_MD_going_53 : decode prog_14_method_45_code 53 = .ok (.iload 4, 2) := by decide +kernel
theorem d_MD_going_55 : decode prog_14_method_45_code 55 = .ok (.goto 22, 3) := by decide +kernel
theorem d_MD_going_58 : decode prog_14_method_45_code 58 = .ok (.iload_n 2, 1) := by decide +kernel
theorem d_MD_going_59 : decode prog_14_method_45_code 59 = .ok (.iconst 3, 1) := by decide +kernel
theorem d_MD_going_60 : decode prog_14_method_45_code 60 = .ok (.if_icmp .ne 15, 3) := by decide +kernel
theorem d_MD_going_63 : decode prog_14_method_45_code 63 = .ok (.aload_n 0, 1) := by decide +kernel
theorem d_MD_going_64 : decode prog_14_method_45_code 64 = .ok (.getfield 57, 3) := by decide +kernel
theorem d_MD_going_67 : decode prog_14_method_45_code 67 = .ok (.iload 4, 2) := by decide +kernel
theorem d_MD_going_69 : decode prog_14_method_45_code 69 = .ok (.invokestatic 110, 3) := by decide +kernel
theorem d_MD_going_72 : decode prog_14_method_45_code 72 = .ok (.goto 5, 3) := by decide +kernel
theorem d_MD_going_75 : decode prog_14_method_45_code 75 = .ok (.bipush (-9), 2) := by decide +kernel
theorem d_MD_going_77 : decode prog_14_method_45_code 77 = .ok (.ireturn, 1) := by decide +kernel
/-- OutOrderModel.going(II)I -/
def MD_going (h0 : Nat) (v1 : Int32) (v2 : Int32) (I : jM) (K : Int32 → jM → Prop) : Prop :=
  MD_goingLacks h0 v1 I (fun r_1 => ((0 ≤ r_1 → MD_goingAround h0 v1 I (fun r_2 => ((¬ v2 = 0 → ((¬ v2 = (1 : Int32) → ((¬ v2 = (2 : Int32) → ((¬ v2 = (3 : Int32) → K (-9 : Int32) I) ∧ (v2 = (3 : Int32) → MD_fillsOf (jr h0 17) r_2 I (fun r_3 => K r_3 I)))) ∧ (v2 = (2 : Int32) → K r_2 I))) ∧ (v2 = (1 : Int32) → MD_ones r_2 I (fun r_4 => K r_4 I)))) ∧ (v2 = 0 → MD_kindOf h0 v1 I (fun r_5 => K r_5 I))))) ∧ (¬ 0 ≤ r_1 → MD_refuse h0 r_1 I (fun r_6 I_7 => K r_6 I_7))))
set_option maxRecDepth 100000 in
set_option maxHeartbeats 4000000 in
theorem s_MD_going {l : Launch} {E : jE} (ok : jOK E) (hE : E.2.2.2 = jLM) {h0 : Nat} {v1 : Int32} {v2 : Int32} (g_h0 : jOB E 11 h0) {I : jM} {K : Int32 → jM → Prop} (h : MD_going h0 v1 v2 I K) : jSi l E ⟨"OutOrderModel", "going", "(II)I"⟩ prog_14_method_45_code 5 (some .int) 3 69 [.ref (E.2.2.1 h0), .int v1, .int v2] I K := by
  refine jS_ofF (own := "OutOrderModel") (by decide +kernel) rfl ok (Nat.le_of_ble_eq_true rfl) (fun Z _ C hr => ?_)
  show jJ Z E 5 (jQi Z E K) 0 [(0, .ref (E.2.2.1 h0)), (1, .int v1), (2, .int v2)] [] I
  unfold MD_going at h
  refine j_aload_n C d_MD_going_0 rfl 0 rfl ?_
  refine j_iload_n C d_MD_going_1 rfl 1 rfl ?_
  refine j_callVi (As := [.int v1]) C jcl_MD cw_MD_167 w_959 ws_41 g_h0 rfl rfl (by decide) (by decide) (Nat.le_of_ble_eq_true rfl) d_MD_going_2 (s_MD_goingLacks C.ok hE g_h0 h) (fun r_1 I2 h => ?_)
  obtain ⟨rfl, h⟩ := h
  refine j_istore_n C d_MD_going_5 rfl (by decide) (lv' := [(3, .int r_1), (0, .ref (E.2.2.1 h0)), (1, .int v1), (2, .int v2)]) rfl ?_
  refine j_iload_n C d_MD_going_6 rfl 0 rfl ?_
  refine j_if_ge C d_MD_going_7 (tgt := 16) (by decide) (fun c7 => ?_) (fun c7 => ?_)
  · have h := h.1 c7
    refine j_aload_n C d_MD_going_16 rfl 1 rfl ?_
    refine j_iload_n C d_MD_going_17 rfl 2 rfl ?_
    refine j_callVi (As := [.int v1]) C jcl_MD cw_MD_170 w_967 ws_43 g_h0 rfl rfl (by decide) (by decide) (Nat.le_of_ble_eq_true rfl) d_MD_going_18 (s_MD_goingAround C.ok hE g_h0 h) (fun r_2 I2 h => ?_)
    obtain ⟨rfl, h⟩ := h
    refine j_istore C d_MD_going_21 (by decide) (lv' := [(4, .int r_2), (3, .int r_1), (0, .ref (E.2.2.1 h0)), (1, .int v1), (2, .int v2)]) rfl ?_
    refine j_iload_n C d_MD_going_23 rfl 4 rfl ?_
    refine j_if_ne C d_MD_going_24 (tgt := 35) (by decide) (fun c24 => ?_) (fun c24 => ?_)
    · have h := h.1 c24
      refine j_iload_n C d_MD_going_35 rfl 4 rfl ?_
      refine j_iconst C d_MD_going_36 ic_1 ?_
      refine j_icmp_ne C d_MD_going_37 (tgt := 48) (by decide) (fun c37 => ?_) (fun c37 => ?_)
      · have h := h.1 c37
        refine j_iload_n C d_MD_going_48 rfl 4 rfl ?_
        refine j_iconst C d_MD_going_49 ic_2 ?_
        refine j_icmp_ne C d_MD_going_50 (tgt := 58) (by decide) (fun c50 => ?_) (fun c50 => ?_)
        · have h := h.1 c50
          refine j_iload_n C d_MD_going_58 rfl 4 rfl ?_
          refine j_iconst C d_MD_going_59 ic_3 ?_
          refine j_icmp_ne C d_MD_going_60 (tgt := 75) (by decide) (fun c60 => ?_) (fun c60 => ?_)
          · have h := h.1 c60
            refine j_bipush C d_MD_going_75 ib_m9 ?_
            exact j_iret C hr d_MD_going_77 h
          · have h := h.2 c60
            refine j_aload_n C d_MD_going_63 rfl 2 rfl ?_
            refine fg_MD_57 C g_h0 d_MD_going_64 ?_
            refine j_iload C d_MD_going_67 0 rfl ?_
            refine j_callSi (As := [.ref (E.2.2.1 (jr h0 17)), .int r_2]) C cw_MD_110 w_863 rfl rfl (by decide) (by decide) (Nat.le_of_ble_eq_true rfl) d_MD_going_69 (s_MD_fillsOf C.ok (((sh_MD_17 hE g_h0)).self) h) (fun r_3 I2 h => ?_)
            obtain ⟨rfl, h⟩ := h
            refine j_goto C d_MD_going_72 (tgt := 77) (by decide) ?_
            exact j_iret C hr d_MD_going_77 h
        · have h := h.2 c50
          refine j_iload C d_MD_going_53 0 rfl ?_
          refine j_goto C d_MD_going_55 (tgt := 77) (by decide) ?_
          exact j_iret C hr d_MD_going_77 h
      · have h := h.2 c37
        refine j_iload C d_MD_going_40 0 rfl ?_
        refine j_callSi (As := [.int r_2]) C cw_MD_98 w_866 rfl rfl (by decide) (by decide) (Nat.le_of_ble_eq_true rfl) d_MD_going_42 (s_MD_ones C.ok  h) (fun r_4 I2 h => ?_)
        obtain ⟨rfl, h⟩ := h
        refine j_goto C d_MD_going_45 (tgt := 77) (by decide) ?_
        exact j_iret C hr d_MD_going_77 h
    · have h := h.2 c24
      refine j_aload_n C d_MD_going_27 rfl 2 rfl ?_
      refine j_iload_n C d_MD_going_28 rfl 3 rfl ?_
      refine j_callVi (As := [.int v1]) C jcl_MD cw_MD_173 w_975 ws_44 g_h0 rfl rfl (by decide) (by decide) (Nat.le_of_ble_eq_true rfl) d_MD_going_29 (s_MD_kindOf C.ok hE g_h0 h) (fun r_5 I2 h => ?_)
      obtain ⟨rfl, h⟩ := h
      refine j_goto C d_MD_going_32 (tgt := 77) (by decide) ?_
      exact j_iret C hr d_MD_going_77 h
  · have h := h.2 c7
    refine j_aload_n C d_MD_going_10 rfl 1 rfl ?_
    refine j_iload_n C d_MD_going_11 rfl 0 rfl ?_
    refine j_callVi (As := [.int r_1]) C jcl_MD cw_MD_79 w_809 ws_23 g_h0 rfl rfl (by decide) (by decide) (Nat.le_of_ble_eq_true rfl) d_MD_going_12 (s_MD_refuse C.ok hE g_h0 h) (fun r_6 I_7 h => ?_)
    exact j_iret C hr d_MD_going_15 h
