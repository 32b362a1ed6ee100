theorem d_MD_planFor_0 : decode prog_14_method_60_code 0 = .ok (.aload_n 0, 1) := by decide +kernel
theorem d_MD_planFor_1 : decode prog_14_method_60_code 1 = .ok (.invokevirtual 148, 3) := by decide +kernel
theorem d_MD_planFor_4 : decode prog_14_method_60_code 4 = .ok (.iconst 0, 1) := by decide +kernel
theorem d_MD_planFor_5 : decode prog_14_method_60_code 5 = .ok (.istore_n 2, 1) := by decide +kernel
theorem d_MD_planFor_6 : decode prog_14_method_60_code 6 = .ok (.iload_n 2, 1) := by decide +kernel
theorem d_MD_planFor_7 : decode prog_14_method_60_code 7 = .ok (.aload_n 0, 1) := by decide +kernel
theorem d_MD_planFor_8 : decode prog_14_method_60_code 8 = .ok (.getfield 7, 3) := by decide +kernel
theorem d_MD_planFor_11 : decode prog_14_method_60_code 11 = .ok (.if_icmp .ge 17, 3) := by decide +kernel
theorem d_MD_planFor_14 : decode prog_14_method_60_code 14 = .ok (.aload_n 0, 1) := by decide +kernel
theorem d_MD_planFor_15 : decode prog_14_method_60_code 15 = .ok (.getfield 72, 3) := by decide +kernel
theorem d_MD_planFor_18 : decode prog_14_method_60_code 18 = .ok (.iload_n 2, 1) := by decide +kernel
theorem d_MD_planFor_19 : decode prog_14_method_60_code 19 = .ok (.bipush (-9), 2) := by decide +kernel
theorem d_MD_planFor_21 : decode prog_14_method_60_code 21 = .ok (.iastore, 1) := by decide +kernel
theorem d_MD_planFor_22 : decode prog_14_method_60_code 22 = .ok (.iinc 2 1, 3) := by decide +kernel
theorem d_MD_planFor_25 : decode prog_14_method_60_code 25 = .ok (.goto (-19), 3) := by decide +kernel
theorem d_MD_planFor_28 : decode prog_14_method_60_code 28 = .ok (.aload_n 0, 1) := by decide +kernel
theorem d_MD_planFor_29 : decode prog_14_method_60_code 29 = .ok (.getfield 7, 3) := by decide +kernel
theorem d_MD_planFor_32 : decode prog_14_method_60_code 32 = .ok (.istore_n 2, 1) := by decide +kernel
theorem d_MD_planFor_33 : decode prog_14_method_60_code 33 = .ok (.iconst 0, 1) := by decide +kernel
theorem d_MD_planFor_34 : decode prog_14_method_60_code 34 = .ok (.istore_n 3, 1) := by decide +kernel
theorem d_MD_planFor_35 : decode prog_14_method_60_code 35 = .ok (.iload_n 2, 1) := by decide +kernel
theorem d_MD_planFor_36 : decode prog_14_method_60_code 36 = .ok (.ifCond .le 114, 3) := by decide +kernel
theorem d_MD_planFor_39 : decode prog_14_method_60_code 39 = .ok (.iconst 0, 1) := by decide +kernel
theorem d_MD_planFor_40 : decode prog_14_method_60_code 40 = .ok (.istore 4, 2) := by decide +kernel
theorem d_MD_planFor_42 : decode prog_14_method_60_code 42 = .ok (.iload 4, 2) := by decide +kernel
theorem d_MD_planFor_44 : decode prog_14_method_60_code 44 = .ok (.iload_n 1, 1) := by decide +kernel
theorem d_MD_planFor_45 : decode prog_14_method_60_code 45 = .ok (.if_icmp .ge 99, 3) := by decide +kernel
theorem d_MD_planFor_48 : decode prog_14_method_60_code 48 = .ok (.bipush (-9), 2) := by decide +kernel
theorem d_MD_planFor_50 : decode prog_14_method_60_code 50 = .ok (.istore 5, 2) := by decide +kernel
theorem d_MD_planFor_52 : decode prog_14_method_60_code 52 = .ok (.iconst 0, 1) := by decide +kernel
theorem d_MD_planFor_53 : decode prog_14_method_60_code 53 = .ok (.istore 6, 2) := by decide +kernel
theorem d_MD_planFor_55 : decode prog_14_method_60_code 55 = .ok (.iload 6, 2) := by decide +kernel
theorem d_MD_planFor_57 : decode prog_14_method_60_code 57 = .ok (.aload_n 0, 1) := by decide +kernel
theorem d_MD_planFor_58 : decode prog_14_method_60_code 58 = .ok (.getfield 7, 3) := by decide +kernel
theorem d_MD_planFor_61 : decode prog_14_method_60_code 61 = .ok (.if_icmp .ge 59, 3) := by decide +kernel
theorem d_MD_planFor_64 : decode prog_14_method_60_code 64 = .ok (.aload_n 0, 1) := by decide +kernel
theorem d_MD_planFor_65 : decode prog_14_method_60_code 65 = .ok (.getfield 24, 3) := by decide +kernel
theorem d_MD_planFor_68 : decode prog_14_method_60_code 68 = .ok (.iload 6, 2) := by decide +kernel
theorem d_MD_planFor_70 : decode prog_14_method_60_code 70 = .ok (.iaload, 1) := by decide +kernel
theorem d_MD_planFor_71 : decode prog_14_method_60_code 71 = .ok (.istore 7, 2) := by decide +kernel
theorem d_MD_planFor_73 : decode prog_14_method_60_code 73 = .ok (.aload_n 0, 1) := by decide +kernel
theorem d_MD_planFor_74 : decode prog_14_method_60_code 74 = .ok (.iload 7, 2) := by decide +kernel
theorem d_MD_planFor_76 : decode prog_14_method_60_code 76 = .ok (.iload_n 3, 1) := by decide +kernel
theorem d_MD_planFor_77 : decode prog_14_method_60_code 77 = .ok (.invokevirtual 194, 3) := by decide +kernel
theorem d_MD_planFor_80 : decode prog_14_method_60_code 80 = .ok (.ifCond .eq 30, 3) := by decide +kernel
theorem d_MD_planFor_83 : decode prog_14_method_60_code 83 = .ok (.iload 5, 2) := by decide +kernel
theorem d_MD_planFor_85 : decode prog_14_method_60_code 85 = .ok (.bipush (-9), 2) := by decide +kernel
theorem d_MD_planFor_87 : decode prog_14_method_60_code 87 = .ok (.if_icmp .eq 18, 3) := by decide +kernel
theorem d_MD_planFor_90 : decode prog_14_method_60_code 90 = .ok (.aload_n 0, 1) := by decide +kernel
theorem d_MD_planFor_91 : decode prog_14_method_60_code 91 = .ok (.iload 7, 2) := by decide +kernel
theorem d_MD_planFor_93 : decode prog_14_method_60_code 93 = .ok (.invokevirtual 154, 3) := by decide +kernel
theorem d_MD_planFor_96 : decode prog_14_method_60_code 96 = .ok (.aload_n 0, 1) := by decide +kernel
theorem d_MD_planFor_97 : decode prog_14_method_60_code 97 = .ok (.iload 5, 2) := by decide +kernel
theorem d_MD_planFor_99 : decode prog_14_method_60_code 99 = .ok (.invokevirtual 154, 3) := by decide +kernel
theorem d_MD_planFor_102 : decode prog_14_method_60_code 102 = .ok (.if_icmp .le 8, 3) := by decide +kernel
theorem d_MD_planFor_105 : decode prog_14_method_60_code 105 = .ok (.iload 7, 2) := by decide +kernel
theorem d_MD_planFor_107 : decode prog_14_method_60_code 107 = .ok (.goto 5, 3) := by decide +kernel
theorem d_MD_planFor_110 : decode prog_14_method_60_code 110 = .ok (.iload 5, 2) := by decide +kernel
theorem d_MD_planFor_112 : decode prog_14_method_60_code 112 = .ok (.istore 5, 2) := by decide +kernel
theorem d_MD_planFor_114 : decode prog_14_method_60_code 114 = .ok (.iinc 6 1, 3) := by decide +kernel
theorem d_MD_planFor_117 : decode prog_14_method_60_code 117 = .ok (.goto (-62), 3) := by decide +kernel
theorem d_MD_planFor_120 : decode prog_14_method_60_code 120 = .ok (.iload 5, 2) := by decide +kernel
theorem d_MD_planFor_122 : decode prog_14_method_60_code 122 = .ok (.bipush (-9), 2) := by decide +kernel
theorem d_MD_planFor_124 : decode prog_14_method_60_code 124 = .ok (.if_icmp .eq 14, 3) := by decide +kernel
theorem d_MD_planFor_127 : decode prog_14_method_60_code 127 = .ok (.aload_n 0, 1) := by decide +kernel
theorem d_MD_planFor_128 : decode prog_14_method_60_code 128 = .ok (.getfield 72, 3) := by decide +kernel
theorem d_MD_planFor_131 : decode prog_14_method_60_code 131 = .ok (.iload 5, 2) := by decide +kernel
theorem d_MD_planFor_133 : decode prog_14_method_60_code 133 = .ok (.iload_n 3, 1) := by decide +kernel
theorem d_MD_planFor_134 : decode prog_14_method_60_code 134 = .ok (.iastore, 1) := by decide +kernel
theorem d_MD_planFor_135 : decode prog_14_method_60_code 135 = .ok (.iinc 2 (-1), 3) := by decide +kernel
theorem d_MD_planFor_138 : decode prog_14_method_60_code 138 = .ok (.iinc 4 1, 3) := by decide +kernel
theorem d_MD_planFor_141 : decode prog_14_method_60_code 141 = .ok (.goto (-99), 3) := by decide +kernel
theorem d_MD_planFor_144 : decode prog_14_method_60_code 144 = .ok (.iinc 3 1, 3) := by decide +kernel
theorem d_MD_planFor_147 : decode prog_14_method_60_code 147 = .ok (.goto (-112), 3) := by decide +kernel
theorem d_MD_planFor_150 : decode prog_14_method_60_code 150 = .ok (.iload_n 3, 1) := by decide +kernel
theorem d_MD_planFor_151 : decode prog_14_method_60_code 151 = .ok (.ireturn, 1) := by decide +kernel
def MD_planFor_55b (h0 : Nat) (v1 : Int32) (v2 : Int32) (v3 : Int32) (v4 : Int32) (v5 : Int32) (v6 : Int32) (I : jM) (K : Int32 → jM → Prop) (X35 : Int32 × Int32 × jM → Prop) (X42 : Int32 × Int32 × jM → Prop) (X55 : Int32 × Int32 → Prop) : Prop :=
  (((I h0 0) ≤ v6 → ((v5 = (-9 : Int32) → X42 (v2, (v4 + 1), I)) ∧ (¬ v5 = (-9 : Int32) → (vp_in v5 24 ∧ (∀ I_1 : jM, I_1 = jwr I (jr h0 23) v5.toNatClampNeg v3 → X42 ((v2 + (-1)), (v4 + 1), I_1)))))) ∧ (¬ (I h0 0) ≤ v6 → (vp_in v6 24 ∧ (∀ v7_2 : Int32, v7_2 = (I (jr h0 4) v6.toNatClampNeg) → MD_mayBeDone h0 v7_2 v3 I (fun r_3 => ((r_3 = 0 → X55 (v5, (v6 + 1))) ∧ (¬ r_3 = 0 → ((v5 = (-9 : Int32) → X55 (v7_2, (v6 + 1))) ∧ (¬ v5 = (-9 : Int32) → MD_height h0 v7_2 I (fun r_4 => MD_height h0 v5 I (fun r_5 => ((r_4 ≤ r_5 → X55 (v5, (v6 + 1))) ∧ (¬ r_4 ≤ r_5 → X55 (v7_2, (v6 + 1)))))))))))))))
def MD_planFor_55 (h0 : Nat) (v1 : Int32) (v2 : Int32) (v3 : Int32) (v4 : Int32) (v5 : Int32) (v6 : Int32) (I : jM) (K : Int32 → jM → Prop) (X35 : Int32 × Int32 × jM → Prop) (X42 : Int32 × Int32 × jM → Prop) : Prop :=
  lp (fun (X55 : Int32 × Int32 → Prop) (s : Int32 × Int32) => MD_planFor_55b h0 v1 v2 v3 v4 s.1 s.2 I K X35 X42 X55) (v5, v6)
set_option maxRecDepth 100000 in
set_option maxHeartbeats 4000000 in
theorem kb_MD_planFor_55 {Z : jZ} {E : jE} (C : jC Z E prog_14_method_60_code 8 "OutOrderModel" 2 48) (hr : (jZh Z).sig.returnType = (some .int)) (hE : E.2.2.2 = jLM)  (h0 : Nat) (v1 : Int32) (v2 : Int32) (v3 : Int32) (v4 : Int32) (v5 : Int32) (v6 : Int32) (I : jM) (g_h0 : jOB E 11 h0) {K : Int32 → jM → Prop} {X35 : Int32 × Int32 × jM → Prop} {X42 : Int32 × Int32 × jM → Prop} (hX35 : ∀ s : Int32 × Int32 × jM, X35 s → jJ Z E 8 (jQi Z E K) 35 [(0, .ref (E.2.2.1 h0)), (1, .int v1), (2, .int s.1), (3, .int s.2.1)] [] s.2.2) (hX42 : ∀ s : Int32 × Int32 × jM, X42 s → jJ Z E 8 (jQi Z E K) 42 [(0, .ref (E.2.2.1 h0)), (1, .int v1), (2, .int s.1), (3, .int v3), (4, .int s.2.1)] [] s.2.2) {X55 : Int32 × Int32 → Prop} (hX55 : ∀ s : Int32 × Int32, X55 s → jJ Z E 8 (jQi Z E K) 55 [(0, .ref (E.2.2.1 h0)), (1, .int v1), (2, .int v2), (3, .int v3), (4, .int v4), (5, .int s.1), (6, .int s.2)] [] I) (h : MD_planFor_55b h0 v1 v2 v3 v4 v5 v6 I K X35 X42 X55) : jJ Z E 8 (jQi Z E K) 55 [(0, .ref (E.2.2.1 h0)), (1, .int v1), (2, .int v2), (3, .int v3), (4, .int v4), (5, .int v5), (6, .int v6)] [] I := by
  unfold MD_planFor_55b at h
  refine j_iload C d_MD_planFor_55 6 rfl ?_
  refine j_aload_n C d_MD_planFor_57 rfl 0 rfl ?_
  refine fg_MD_7 C g_h0 d_MD_planFor_58 ?_
  refine j_icmp_ge C d_MD_planFor_61 (tgt := 120) (by decide) (fun c61 => ?_) (fun c61 => ?_)
  · have h := h.1 c61
    refine j_iload C d_MD_planFor_120 5 rfl ?_
    refine j_bipush C d_MD_planFor_122 ib_m9 ?_
    refine j_icmp_eq C d_MD_planFor_124 (tgt := 138) (by decide) (fun c124 => ?_) (fun c124 => ?_)
    · have h := h.1 c124
      refine j_iinc C d_MD_planFor_138 4 rfl (v := (v4 + 1)) rfl (by decide) (lv' := [(4, .int (v4 + 1)), (0, .ref (E.2.2.1 h0)), (1, .int v1), (2, .int v2), (3, .int v3), (5, .int v5), (6, .int v6)]) rfl ?_
      refine j_goto C d_MD_planFor_141 (tgt := 42) (by decide) ?_
      refine j_lv [1, 2, 3, 4, 0] rfl ?_
      exact hX42 (v2, (v4 + 1), I) h
    · have h := h.2 c124
      refine j_aload_n C d_MD_planFor_127 rfl 0 rfl ?_
      refine fg_MD_72 C g_h0 d_MD_planFor_128 ?_
      refine j_iload C d_MD_planFor_131 5 rfl ?_
      refine j_iload_n C d_MD_planFor_133 rfl 3 rfl ?_
      obtain ⟨hi, h⟩ := h
      refine j_iastore C (sh_MD_23 hE g_h0) hi d_MD_planFor_134 ?_
      have h := h _ rfl
      generalize eI_1 : (jwr I (jr h0 23) v5.toNatClampNeg v3 : jM) = I_1 at h ⊢
      refine j_iinc C d_MD_planFor_135 2 rfl (v := (v2 + (-1))) rfl (by decide) (lv' := [(2, .int (v2 + (-1))), (0, .ref (E.2.2.1 h0)), (1, .int v1), (3, .int v3), (4, .int v4), (5, .int v5), (6, .int v6)]) rfl ?_
      refine j_iinc C d_MD_planFor_138 4 rfl (v := (v4 + 1)) rfl (by decide) (lv' := [(4, .int (v4 + 1)), (2, .int (v2 + (-1))), (0, .ref (E.2.2.1 h0)), (1, .int v1), (3, .int v3), (5, .int v5), (6, .int v6)]) rfl ?_
      refine j_goto C d_MD_planFor_141 (tgt := 42) (by decide) ?_
      refine j_lv [2, 3, 1, 4, 0] rfl ?_
      exact hX42 ((v2 + (-1)), (v4 + 1), I_1) h
  · have h := h.2 c61
    refine j_aload_n C d_MD_planFor_64 rfl 0 rfl ?_
    refine fg_MD_24 C g_h0 d_MD_planFor_65 ?_
    refine j_iload C d_MD_planFor_68 6 rfl ?_
    obtain ⟨hi, h⟩ := h
    refine j_iaload C (sh_MD_4 hE g_h0) hi d_MD_planFor_70 ?_
    refine j_topi (fun v7_2 ev7_2 => ?_)
    have h := h v7_2 ev7_2
    refine j_istore C d_MD_planFor_71 (by decide) (lv' := [(7, .int v7_2), (0, .ref (E.2.2.1 h0)), (1, .int v1), (2, .int v2), (3, .int v3), (4, .int v4), (5, .int v5), (6, .int v6)]) rfl ?_
    refine j_aload_n C d_MD_planFor_73 rfl 1 rfl ?_
    refine j_iload C d_MD_planFor_74 0 rfl ?_
    refine j_iload_n C d_MD_planFor_76 rfl 4 rfl ?_
    refine j_callVi (As := [.int v7_2, .int v3]) C jcl_MD cw_MD_194 w_1039 ws_51 g_h0 rfl rfl (by decide) (by decide) (Nat.le_of_ble_eq_true rfl) d_MD_planFor_77 (s_MD_mayBeDone C.ok hE g_h0 h) (fun r_3 I2 h => ?_)
    obtain ⟨rfl, h⟩ := h
    refine j_if_eq C d_MD_planFor_80 (tgt := 110) (by decide) (fun c80 => ?_) (fun c80 => ?_)
    · have h := h.1 c80
      refine j_iload C d_MD_planFor_110 6 rfl ?_
      refine j_istore C d_MD_planFor_112 (by decide) (lv' := [(5, .int v5), (7, .int v7_2), (0, .ref (E.2.2.1 h0)), (1, .int v1), (2, .int v2), (3, .int v3), (4, .int v4), (6, .int v6)]) rfl ?_
      refine j_iinc C d_MD_planFor_114 7 rfl (v := (v6 + 1)) rfl (by decide) (lv' := [(6, .int (v6 + 1)), (5, .int v5), (7, .int v7_2), (0, .ref (E.2.2.1 h0)), (1, .int v1), (2, .int v2), (3, .int v3), (4, .int v4)]) rfl ?_
      refine j_goto C d_MD_planFor_117 (tgt := 55) (by decide) ?_
      refine j_lv [3, 4, 5, 6, 7, 1, 0] rfl ?_
      exact hX55 (v5, (v6 + 1)) h
    · have h := h.2 c80
      refine j_iload C d_MD_planFor_83 6 rfl ?_
      refine j_bipush C d_MD_planFor_85 ib_m9 ?_
      refine j_icmp_eq C d_MD_planFor_87 (tgt := 105) (by decide) (fun c87 => ?_) (fun c87 => ?_)
      · have h := h.1 c87
        refine j_iload C d_MD_planFor_105 0 rfl ?_
        refine j_goto C d_MD_planFor_107 (tgt := 112) (by decide) ?_
        refine j_istore C d_MD_planFor_112 (by decide) (lv' := [(5, .int v7_2), (7, .int v7_2), (0, .ref (E.2.2.1 h0)), (1, .int v1), (2, .int v2), (3, .int v3), (4, .int v4), (6, .int v6)]) rfl ?_
        refine j_iinc C d_MD_planFor_114 7 rfl (v := (v6 + 1)) rfl (by decide) (lv' := [(6, .int (v6 + 1)), (5, .int v7_2), (7, .int v7_2), (0, .ref (E.2.2.1 h0)), (1, .int v1), (2, .int v2), (3, .int v3), (4, .int v4)]) rfl ?_
        refine j_goto C d_MD_planFor_117 (tgt := 55) (by decide) ?_
        refine j_lv [3, 4, 5, 6, 7, 1, 0] rfl ?_
        exact hX55 (v7_2, (v6 + 1)) h
      · have h := h.2 c87
        refine j_aload_n C d_MD_planFor_90 rfl 1 rfl ?_
        refine j_iload C d_MD_planFor_91 0 rfl ?_
        refine j_callVi (As := [.int v7_2]) C jcl_MD cw_MD_154 w_926 ws_39 g_h0 rfl rfl (by decide) (by decide) (Nat.le_of_ble_eq_true rfl) d_MD_planFor_93 (s_MD_height C.ok hE g_h0 h) (fun r_4 I2 h => ?_)
        obtain ⟨rfl, h⟩ := h
        refine j_aload_n C d_MD_planFor_96 rfl 1 rfl ?_
        refine j_iload C d_MD_planFor_97 6 rfl ?_
        refine j_callVi (As := [.int v5]) C jcl_MD cw_MD_154 w_926 ws_39 g_h0 rfl rfl (by decide) (by decide) (Nat.le_of_ble_eq_true rfl) d_MD_planFor_99 (s_MD_height C.ok hE g_h0 h) (fun r_5 I2 h => ?_)
        obtain ⟨rfl, h⟩ := h
        refine j_icmp_le C d_MD_planFor_102 (tgt := 110) (by decide) (fun c102 => ?_) (fun c102 => ?_)
        · have h := h.1 c102
          refine j_iload C d_MD_planFor_110 6 rfl ?_
          refine j_istore C d_MD_planFor_112 (by decide) (lv' := [(5, .int v5), (7, .int v7_2), (0, .ref (E.2.2.1 h0)), (1, .int v1), (2, .int v2), (3, .int v3), (4, .int v4), (6, .int v6)]) rfl ?_
          refine j_iinc C d_MD_planFor_114 7 rfl (v := (v6 + 1)) rfl (by decide) (lv' := [(6, .int (v6 + 1)), (5, .int v5), (7, .int v7_2), (0, .ref (E.2.2.1 h0)), (1, .int v1), (2, .int v2), (3, .int v3), (4, .int v4)]) rfl ?_
          refine j_goto C d_MD_planFor_117 (tgt := 55) (by decide) ?_
          refine j_lv [3, 4, 5, 6, 7, 1, 0] rfl ?_
          exact hX55 (v5, (v6 + 1)) h
        · have h := h.2 c102
          refine j_iload C d_MD_planFor_105 0 rfl ?_
          refine j_goto C d_MD_planFor_107 (tgt := 112) (by decide) ?_
          refine j_istore C d_MD_planFor_112 (by decide) (lv' := [(5, .int v7_2), (7, .int v7_2), (0, .ref (E.2.2.1 h0)), (1, .int v1), (2, .int v2), (3, .int v3), (4, .int v4), (6, .int v6)]) rfl ?_
          refine j_iinc C d_MD_planFor_114 7 rfl (v := (v6 + 1)) rfl (by decide) (lv' := [(6, .int (v6 + 1)), (5, .int v7_2), (7, .int v7_2), (0, .ref (E.2.2.1 h0)), (1, .int v1), (2, .int v2), (3, .int v3), (4, .int v4)]) rfl ?_
          refine j_goto C d_MD_planFor_117 (tgt := 55) (by decide) ?_
          refine j_lv [3, 4, 5, 6, 7, 1, 0] rfl ?_
          exact hX55 (v7_2, (v6 + 1)) h
theorem k_MD_planFor_55 {Z : jZ} {E : jE} (C : jC Z E prog_14_method_60_code 8 "OutOrderModel" 2 48) (hr : (jZh Z).sig.returnType = (some .int)) (hE : E.2.2.2 = jLM)  (h0 : Nat) (v1 : Int32) (v2 : Int32) (v3 : Int32) (v4 : Int32) (v5 : Int32) (v6 : Int32) (I : jM) (g_h0 : jOB E 11 h0) {K : Int32 → jM → Prop} {X35 : Int32 × Int32 × jM → Prop} {X42 : Int32 × Int32 × jM → Prop} (hX35 : ∀ s : Int32 × Int32 × jM, X35 s → jJ Z E 8 (jQi Z E K) 35 [(0, .ref (E.2.2.1 h0)), (1, .int v1), (2, .int s.1), (3, .int s.2.1)] [] s.2.2) (hX42 : ∀ s : Int32 × Int32 × jM, X42 s → jJ Z E 8 (jQi Z E K) 42 [(0, .ref (E.2.2.1 h0)), (1, .int v1), (2, .int s.1), (3, .int v3), (4, .int s.2.1)] [] s.2.2) (h : MD_planFor_55 h0 v1 v2 v3 v4 v5 v6 I K X35 X42) : jJ Z E 8 (jQi Z E K) 55 [(0, .ref (E.2.2.1 h0)), (1, .int v1), (2, .int v2), (3, .int v3), (4, .int v4), (5, .int v5), (6, .int v6)] [] I := by
  unfold MD_planFor_55 at h
  exact h (fun s => jJ Z E 8 (jQi Z E K) 55 [(0, .ref (E.2.2.1 h0)), (1, .int v1), (2, .int v2), (3, .int v3), (4, .int v4), (5, .int s.1), (6, .int s.2)] [] I) (fun s hs => kb_MD_planFor_55 C hr hE h0 v1 v2 v3 v4 s.1 s.2 I g_h0 hX35 hX42 (fun s2 h2 => h2) hs)
def MD_planFor_42b (h0 : Nat) (v1 : Int32) (v2 : Int32) (v3 : Int32) (v4 : Int32) (I : jM) (K : Int32 → jM → Prop) (X35 : Int32 × Int32 × jM → Prop) (X42 : Int32 × Int32 × jM → Prop) : Prop :=
  ((v1 ≤ v4 → X35 (v2, (v3 + 1), I)) ∧ (¬ v1 ≤ v4 → MD_planFor_55 h0 v1 v2 v3 v4 (-9 : Int32) (0 : Int32) I K X35 X42))
def MD_planFor_42 (h0 : Nat) (v1 : Int32) (v2 : Int32) (v3 : Int32) (v4 : Int32) (I : jM) (K : Int32 → jM → Prop) (X35 : Int32 × Int32 × jM → Prop) : Prop :=
  lp (fun (X42 : Int32 × Int32 × jM → Prop) (s : Int32 × Int32 × jM) => MD_planFor_42b h0 v1 s.1 v3 s.2.1 s.2.2 K X35 X42) (v2, v4, I)
set_option maxRecDepth 100000 in
set_option maxHeartbeats 4000000 in
theorem kb_MD_planFor_42 {Z : jZ} {E : jE} (C : jC Z E prog_14_method_60_code 8 "OutOrderModel" 2 48) (hr : (jZh Z).sig.returnType = (some .int)) (hE : E.2.2.2 = jLM)  (h0 : Nat) (v1 : Int32) (v2 : Int32) (v3 : Int32) (v4 : Int32) (I : jM) (g_h0 : jOB E 11 h0) {K : Int32 → jM → Prop} {X35 : Int32 × Int32 × jM → Prop} (hX35 : ∀ s : Int32 × Int32 × jM, X35 s → jJ Z E 8 (jQi Z E K) 35 [(0, .ref (E.2.2.1 h0)), (1, .int v1), (2, .int s.1), (3, .int s.2.1)] [] s.2.2) {X42 : Int32 × Int32 × jM → Prop} (hX42 : ∀ s : Int32 × Int32 × jM, X42 s → jJ Z E 8 (jQi Z E K) 42 [(0, .ref (E.2.2.1 h0)), (1, .int v1), (2, .int s.1), (3, .int v3), (4, .int s.2.1)] [] s.2.2) (h : MD_planFor_42b h0 v1 v2 v3 v4 I K X35 X42) : jJ Z E 8 (jQi Z E K) 42 [(0, .ref (E.2.2.1 h0)), (1, .int v1), (2, .int v2), (3, .int v3), (4, .int v4)] [] I := by
  unfold MD_planFor_42b at h
  refine j_iload C d_MD_planFor_42 4 rfl ?_
  refine j_iload_n C d_MD_planFor_44 rfl 1 rfl ?_
  refine j_icmp_ge C d_MD_planFor_45 (tgt := 144) (by decide) (fun c45 => ?_) (fun c45 => ?_)
  · have h := h.1 c45
    refine j_iinc C d_MD_planFor_144 3 rfl (v := (v3 + 1)) rfl (by decide) (lv' := [(3, .int (v3 + 1)), (0, .ref (E.2.2.1 h0)), (1, .int v1), (2, .int v2), (4, .int v4)]) rfl ?_
    refine j_goto C d_MD_planFor_147 (tgt := 35) (by decide) ?_
    refine j_lv [1, 2, 3, 0] rfl ?_
    exact hX35 (v2, (v3 + 1), I) h
  · have h := h.2 c45
    refine j_bipush C d_MD_planFor_48 ib_m9 ?_
    refine j_istore C d_MD_planFor_50 (by decide) (lv' := [(5, .int (-9 : Int32)), (0, .ref (E.2.2.1 h0)), (1, .int v1), (2, .int v2), (3, .int v3), (4, .int v4)]) rfl ?_
    refine j_iconst C d_MD_planFor_52 ic_0 ?_
    refine j_istore C d_MD_planFor_53 (by decide) (lv' := [(6, .int (0 : Int32)), (5, .int (-9 : Int32)), (0, .ref (E.2.2.1 h0)), (1, .int v1), (2, .int v2), (3, .int v3), (4, .int v4)]) rfl ?_
    refine j_lv [2, 3, 4, 5, 6, 1, 0] rfl ?_
    exact k_MD_planFor_55 C hr hE h0 v1 v2 v3 v4 (-9 : Int32) (0 : Int32) I g_h0 hX35 hX42 h
theorem k_MD_planFor_42 {Z : jZ} {E : jE} (C : jC Z E prog_14_method_60_code 8 "OutOrderModel" 2 48) (hr : (jZh Z).sig.returnType = (some .int)) (hE : E.2.2.2 = jLM)  (h0 : Nat) (v1 : Int32) (v2 : Int32) (v3 : Int32) (v4 : Int32) (I : jM) (g_h0 : jOB E 11 h0) {K : Int32 → jM → Prop} {X35 : Int32 × Int32 × jM → Prop} (hX35 : ∀ s : Int32 × Int32 × jM, X35 s → jJ Z E 8 (jQi Z E K) 35 [(0, .ref (E.2.2.1 h0)), (1, .int v1), (2, .int s.1), (3, .int s.2.1)] [] s.2.2) (h : MD_planFor_42 h0 v1 v2 v3 v4 I K X35) : jJ Z E 8 (jQi Z E K) 42 [(0, .ref (E.2.2.1 h0)), (1, .int v1), (2, .int v2), (3, .int v3), (4, .int v4)] [] I := by
  unfold MD_planFor_42 at h
  exact h (fun s => jJ Z E 8 (jQi Z E K) 42 [(0, .ref (E.2.2.1 h0)), (1, .int v1), (2, .int s.1), (3, .int v3), (4, .int s.2.1)] [] s.2.2) (fun s hs => kb_MD_planFor_42 C hr hE h0 v1 s.1 v3 s.2.1 s.2.2 g_h0 hX35 (fun s2 h2 => h2) hs)
def MD_planFor_35b (h0 : Nat) (v1 : Int32) (v2 : Int32) (v3 : Int32) (I : jM) (K : Int32 → jM → Prop) (X35 : Int32 × Int32 × jM → Prop) : Prop :=
  ((v2 ≤ 0 → K v3 I) ∧ (¬ v2 ≤ 0 → MD_planFor_42 h0 v1 v2 v3 (0 : Int32) I K X35))
def MD_planFor_35 (h0 : Nat) (v1 : Int32) (v2 : Int32) (v3 : Int32) (I : jM) (K : Int32 → jM → Prop) : Prop :=
  lp (fun (X35 : Int32 × Int32 × jM → Prop) (s : Int32 × Int32 × jM) => MD_planFor_35b h0 v1 s.1 s.2.1 s.2.2 K X35) (v2, v3, I)
set_option maxRecDepth 100000 in
set_option maxHeartbeats 4000000 in
theorem kb_MD_planFor_35 {Z : jZ} {E : jE} (C : jC Z E prog_14_method_60_code 8 "OutOrderModel" 2 48) (hr : (jZh Z).sig.returnType = (some .int)) (hE : E.2.2.2 = jLM)  (h0 : Nat) (v1 : Int32) (v2 : Int32) (v3 : Int32) (I : jM) (g_h0 : jOB E 11 h0) {K : Int32 → jM → Prop} {X35 : Int32 × Int32 × jM → Prop} (hX35 : ∀ s : Int32 × Int32 × jM, X35 s → jJ Z E 8 (jQi Z E K) 35 [(0, .ref (E.2.2.1 h0)), (1, .int v1), (2, .int s.1), (3, .int s.2.1)] [] s.2.2) (h : MD_planFor_35b h0 v1 v2 v3 I K X35) : jJ Z E 8 (jQi Z E K) 35 [(0, .ref (E.2.2.1 h0)), (1, .int v1), (2, .int v2), (3, .int v3)] [] I := by
  unfold MD_planFor_35b at h
  refine j_iload_n C d_MD_planFor_35 rfl 2 rfl ?_
  refine j_if_le C d_MD_planFor_36 (tgt := 150) (by decide) (fun c36 => ?_) (fun c36 => ?_)
  · have h := h.1 c36
    refine j_iload_n C d_MD_planFor_150 rfl 3 rfl ?_
    exact j_iret C hr d_MD_planFor_151 h
  · have h := h.2 c36
    refine j_iconst C d_MD_planFor_39 ic_0 ?_
    refine j_istore C d_MD_planFor_40 (by decide) (lv' := [(4, .int (0 : Int32)), (0, .ref (E.2.2.1 h0)), (1, .int v1), (2, .int v2), (3, .int v3)]) rfl ?_
    refine j_lv [1, 2, 3, 4, 0] rfl ?_
    exact k_MD_planFor_42 C hr hE h0 v1 v2 v3 (0 : Int32) I g_h0 hX35 h
theorem k_MD_planFor_35 {Z : jZ} {E : jE} (C : jC Z E prog_14_method_60_code 8 "OutOrderModel" 2 48) (hr : (jZh Z).sig.returnType = (some .int)) (hE : E.2.2.2 = jLM)  (h0 : Nat) (v1 : Int32) (v2 : Int32) (v3 : Int32) (I : jM) (g_h0 : jOB E 11 h0) {K : Int32 → jM → Prop} (h : MD_planFor_35 h0 v1 v2 v3 I K) : jJ Z E 8 (jQi Z E K) 35 [(0, .ref (E.2.2.1 h0)), (1, .int v1), (2, .int v2), (3, .int v3)] [] I := by
  unfold MD_planFor_35 at h
  exact h (fun s => jJ Z E 8 (jQi Z E K) 35 [(0, .ref (E.2.2.1 h0)), (1, .int v1), (2, .int s.1), (3, .int s.2.1)] [] s.2.2) (fun s hs => kb_MD_planFor_35 C hr hE h0 v1 s.1 s.2.1 s.2.2 g_h0 (fun s2 h2 => h2) hs)
def MD_planFor_6b (h0 : Nat) (v1 : Int32) (v2 : Int32) (I : jM) (K : Int32 → jM → Prop) (X6 : Int32 × jM → Prop) : Prop :=
  (((I h0 0) ≤ v2 → (∀ v2_1 : Int32, v2_1 = (I h0 0) → MD_planFor_35 h0 v1 v2_1 (0 : Int32) I K)) ∧ (¬ (I h0 0) ≤ v2 → (vp_in v2 24 ∧ (∀ I_2 : jM, I_2 = jwr I (jr h0 23) v2.toNatClampNeg (-9 : Int32) → X6 ((v2 + 1), I_2)))))
def MD_planFor_6 (h0 : Nat) (v1 : Int32) (v2 : Int32) (I : jM) (K : Int32 → jM → Prop) : Prop :=
  lp (fun (X6 : Int32 × jM → Prop) (s : Int32 × jM) => MD_planFor_6b h0 v1 s.1 s.2 K X6) (v2, I)
set_option maxRecDepth 100000 in
set_option maxHeartbeats 4000000 in
theorem kb_MD_planFor_6 {Z : jZ} {E : jE} (C : jC Z E prog_14_method_60_code 8 "OutOrderModel" 2 48) (hr : (jZh Z).sig.returnType = (some .int)) (hE : E.2.2.2 = jLM)  (h0 : Nat) (v1 : Int32) (v2 : Int32) (I : jM) (g_h0 : jOB E 11 h0) {K : Int32 → jM → Prop} {X6 : Int32 × jM → Prop} (hX6 : ∀ s : Int32 × jM, X6 s → jJ Z E 8 (jQi Z E K) 6 [(0, .ref (E.2.2.1 h0)), (1, .int v1), (2, .int s.1)] [] s.2) (h : MD_planFor_6b h0 v1 v2 I K X6) : jJ Z E 8 (jQi Z E K) 6 [(0, .ref (E.2.2.1 h0)), (1, .int v1), (2, .int v2)] [] I := by
  unfold MD_planFor_6b at h
  refine j_iload_n C d_MD_planFor_6 rfl 2 rfl ?_
  refine j_aload_n C d_MD_planFor_7 rfl 0 rfl ?_
  refine fg_MD_7 C g_h0 d_MD_planFor_8 ?_
  refine j_icmp_ge C d_MD_planFor_11 (tgt := 28) (by decide) (fun c11 => ?_) (fun c11 => ?_)
  · have h := h.1 c11
    refine j_aload_n C d_MD_planFor_28 rfl 0 rfl ?_
    refine fg_MD_7 C g_h0 d_MD_planFor_29 ?_
    refine j_topi (fun v2_1 ev2_1 => ?_)
    have h := h v2_1 ev2_1
    refine j_istore_n C d_MD_planFor_32 rfl (by decide) (lv' := [(2, .int v2_1), (0, .ref (E.2.2.1 h0)), (1, .int v1)]) rfl ?_
    refine j_iconst C d_MD_planFor_33 ic_0 ?_
    refine j_istore_n C d_MD_planFor_34 rfl (by decide) (lv' := [(3, .int (0 : Int32)), (2, .int v2_1), (0, .ref (E.2.2.1 h0)), (1, .int v1)]) rfl ?_
    refine j_lv [2, 3, 1, 0] rfl ?_
    exact k_MD_planFor_35 C hr hE h0 v1 v2_1 (0 : Int32) I g_h0 h
  · have h := h.2 c11
    refine j_aload_n C d_MD_planFor_14 rfl 0 rfl ?_
    refine fg_MD_72 C g_h0 d_MD_planFor_15 ?_
    refine j_iload_n C d_MD_planFor_18 rfl 2 rfl ?_
    refine j_bipush C d_MD_planFor_19 ib_m9 ?_
    obtain ⟨hi, h⟩ := h
    refine j_iastore C (sh_MD_23 hE g_h0) hi d_MD_planFor_21 ?_
    have h := h _ rfl
    generalize eI_2 : (jwr I (jr h0 23) v2.toNatClampNeg (-9 : Int32) : jM) = I_2 at h ⊢
    refine j_iinc C d_MD_planFor_22 2 rfl (v := (v2 + 1)) rfl (by decide) (lv' := [(2, .int (v2 + 1)), (0, .ref (E.2.2.1 h0)), (1, .int v1)]) rfl ?_
    refine j_goto C d_MD_planFor_25 (tgt := 6) (by decide) ?_
    refine j_lv [1, 2, 0] rfl ?_
    exact hX6 ((v2 + 1), I_2) h
theorem k_MD_planFor_6 {Z : jZ} {E : jE} (C : jC Z E prog_14_method_60_code 8 "OutOrderModel" 2 48) (hr : (jZh Z).sig.returnType = (some .int)) (hE : E.2.2.2 = jLM)  (h0 : Nat) (v1 : Int32) (v2 : Int32) (I : jM) (g_h0 : jOB E 11 h0) {K : Int32 → jM → Prop} (h : MD_planFor_6 h0 v1 v2 I K) : jJ Z E 8 (jQi Z E K) 6 [(0, .ref (E.2.2.1 h0)), (1, .int v1), (2, .int v2)] [] I := by
  unfold MD_planFor_6 at h
  exact h (fun s => jJ Z E 8 (jQi Z E K) 6 [(0, .ref (E.2.2.1 h0)), (1, .int v1), (2, .int s.1)] [] s.2) (fun s hs => kb_MD_planFor_6 C hr hE h0 v1 s.1 s.2 g_h0 (fun s2 h2 => h2) hs)
/-- OutOrderModel.planFor(I)I -/
def MD_planFor (h0 : Nat) (v1 : Int32) (I : jM) (K : Int32 → jM → Prop) : Prop :=
  MD_goThrough h0 I (fun I_2 => MD_planFor_6 h0 v1 (0 : Int32) I_2 K)
set_option maxRecDepth 100000 in
set_option maxHeartbeats 4000000 in
theorem s_MD_planFor {l : Launch} {E : jE} (ok : jOK E) (hE : E.2.2.2 = jLM) {h0 : Nat} {v1 : Int32} (g_h0 : jOB E 11 h0) {I : jM} {K : Int32 → jM → Prop} (h : MD_planFor h0 v1 I K) : jSi l E ⟨"OutOrderModel", "planFor", "(I)I"⟩ prog_14_method_60_code 8 (some .int) 2 48 [.ref (E.2.2.1 h0), .int v1] I K := by
  refine jS_ofF (own := "OutOrderModel") (by decide +kernel) rfl ok (Nat.le_of_ble_eq_true rfl) (fun Z _ C hr => ?_)
  show jJ Z E 8 (jQi Z E K) 0 [(0, .ref (E.2.2.1 h0)), (1, .int v1)] [] I
  unfold MD_planFor at h
  refine j_aload_n C d_MD_planFor_0 rfl 0 rfl ?_
  refine j_callVv (As := []) C jcl_MD cw_MD_148 w_901 ws_37 g_h0 rfl rfl (by decide) (by decide) (Nat.le_of_ble_eq_true rfl) d_MD_planFor_1 (s_MD_goThrough C.ok hE g_h0 h) (fun I_2 h => ?_)
  refine j_iconst C d_MD_planFor_4 ic_0 ?_
  refine j_istore_n C d_MD_planFor_5 rfl (by decide) (lv' := [(2, .int (0 : Int32)), (0, .ref (E.2.2.1 h0)), (1, .int v1)]) rfl ?_
  refine j_lv [1, 2, 0] rfl ?_
  exact k_MD_planFor_6 C hr hE h0 v1 (0 : Int32) I_2 g_h0 h
theorem d_MD_plan_0 : decode prog_14_method_62_code 0 = .ok (.iload_n 1, 1) := by decide +kernel
theorem d_MD_plan_1 : decode prog_14_method_62_code 1 = .ok (.iconst 1, 1) := by decide +kernel
theorem d_MD_plan_2 : decode prog_14_method_62_code 2 = .ok (.if_icmp .ge 12, 3) := by decide +kernel
theorem d_MD_plan_5 : decode prog_14_method_62_code 5 = .ok (.aload_n 0, 1) := by decide +kernel
theorem d_MD_plan_6 : decode prog_14_method_62_code 6 = .ok (.bipush (-4), 2) := by decide +kernel
theorem d_MD_plan_8 : decode prog_14_method_62_code 8 = .ok (.invokevirtual 79, 3) := by decide +kernel
theorem d_MD_plan_11 : decode prog_14_method_62_code 11 = .ok (.goto 23, 3) := by decide +kernel
theorem d_MD_plan_14 : decode prog_14_method_62_code 14 = .ok (.iload_n 1, 1) := by decide +kernel
theorem d_MD_plan_15 : decode prog_14_method_62_code 15 = .ok (.bipush 24, 2) := by decide +kernel
theorem d_MD_plan_17 : decode prog_14_method_62_code 17 = .ok (.if_icmp .le 12, 3) := by decide +kernel
theorem d_MD_plan_20 : decode prog_14_method_62_code 20 = .ok (.aload_n 0, 1) := by decide +kernel
theorem d_MD_plan_21 : decode prog_14_method_62_code 21 = .ok (.bipush (-6), 2) := by decide +kernel
theorem d_MD_plan_23 : decode prog_14_method_62_code 23 = .ok (.invokevirtual 79, 3) := by decide +kernel
theorem d_MD_plan_26 : decode prog_14_method_62_code 26 = .ok (.goto 8, 3) := by decide +kernel
theorem d_MD_plan_29 : decode prog_14_method_62_code 29 = .ok (.aload_n 0, 1) := by decide +kernel
theorem d_MD_plan_30 : decode prog_14_method_62_code 30 = .ok (.iload_n 1, 1) := by decide +kernel
theorem d_MD_plan_31 : decode prog_14_method_62_code 31 = .ok (.invokevirtual 198, 3) := by decide +kernel
theorem d_MD_plan_34 : decode prog_14_method_62_code 34 = .ok (.ireturn, 1) := by decide +kernel
/-- OutOrderModel.plan(I)I -/
def MD_plan (h0 : Nat) (v1 : Int32) (I : jM) (K : Int32 → jM → Prop) : Prop :=
  (((1 : Int32) ≤ v1 → ((v1 ≤ (24 : Int32) → MD_planFor h0 v1 I (fun r_1 I_2 => K r_1 I_2)) ∧ (¬ v1 ≤ (24 : Int32) → MD_refuse h0 (-6 : Int32) I (fun r_3 I_4 => K r_3 I_4)))) ∧ (¬ (1 : Int32) ≤ v1 → MD_refuse h0 (-4 : Int32) I (fun r_5 I_6 => K r_5 I_6)))
set_option maxRecDepth 100000 in
set_option maxHeartbeats 4000000 in
theorem s_MD_plan {l : Launch} {E : jE} (ok : jOK E) (hE : E.2.2.2 = jLM) {h0 : Nat} {v1 : Int32} (g_h0 : jOB E 11 h0) {I : jM} {K : Int32 → jM → Prop} (h : MD_plan h0 v1 I K) : jSi l E ⟨"OutOrderModel", "plan", "(I)I"⟩ prog_14_method_62_code 2 (some .int) 3 75 [.ref (E.2.2.1 h0), .int v1] I K := by
  refine jS_ofF (own := "OutOrderModel") (by decide +kernel) rfl ok (Nat.le_of_ble_eq_true rfl) (fun Z _ C hr => ?_)
  show jJ Z E 2 (jQi Z E K) 0 [(0, .ref (E.2.2.1 h0)), (1, .int v1)] [] I
  unfold MD_plan at h
  refine j_iload_n C d_MD_plan_0 rfl 1 rfl ?_
  refine j_iconst C d_MD_plan_1 ic_1 ?_
  refine j_icmp_ge C d_MD_plan_2 (tgt := 14) (by decide) (fun c2 => ?_) (fun c2 => ?_)
  · have h := h.1 c2
    refine j_iload_n C d_MD_plan_14 rfl 1 rfl ?_
    refine j_bipush C d_MD_plan_15 ib_24 ?_
    refine j_icmp_le C d_MD_plan_17 (tgt := 29) (by decide) (fun c17 => ?_) (fun c17 => ?_)
    · have h := h.1 c17
      refine j_aload_n C d_MD_plan_29 rfl 0 rfl ?_
      refine j_iload_n C d_MD_plan_30 rfl 1 rfl ?_
      refine j_callVi (As := [.int v1]) C jcl_MD cw_MD_198 w_1035 ws_50 g_h0 rfl rfl (by decide) (by decide) (Nat.le_of_ble_eq_true rfl) d_MD_plan_31 (s_MD_planFor C.ok hE g_h0 h) (fun r_1 I_2 h => ?_)
      exact j_iret C hr d_MD_plan_34 h
    · have h := h.2 c17
      refine j_aload_n C d_MD_plan_20 rfl 0 rfl ?_
      refine j_bipush C d_MD_plan_21 ib_m6 ?_
      refine j_callVi (As := [.int (-6 : Int32)]) C jcl_MD cw_MD_79 w_809 ws_23 g_h0 rfl rfl (by decide) (by decide) (Nat.le_of_ble_eq_true rfl) d_MD_plan_23 (s_MD_refuse C.ok hE g_h0 h) (fun r_3 I_4 h => ?_)
      refine j_goto C d_MD_plan_26 (tgt := 34) (by decide) ?_
      exact j_iret C hr d_MD_plan_34 h
  · have h := h.2 c2
    refine j_aload_n C d_MD_plan_5 rfl 0 rfl ?_
    refine j_bipush C d_MD_plan_6 ib_m4 ?_
    refine j_callVi (As := [.int (-4 : Int32)]) C jcl_MD cw_MD_79 w_809 ws_23 g_h0 rfl rfl (by decide) (by decide) (Nat.le_of_ble_eq_true rfl) d_MD_plan_8 (s_MD_refuse C.ok hE g_h0 h) (fun r_5 I_6 h => ?_)
    refine j_goto C d_MD_plan_11 (tgt := 34) (by decide) ?_
    exact j_iret C hr d_MD_plan_34 h
theorem d_MD_put_0 : decode prog_14_method_9_code 0 = .ok (.aload_n 0, 1) := by decide +kernel
theorem d_MD_put_1 : decode prog_14_method_9_code 1 = .ok (.iload_n 1, 1) := by decide +kernel
theorem d_MD_put_2 : decode prog_14_method_9_code 2 = .ok (.invokevirtual 90, 3) := by decide +kernel
theorem d_MD_put_5 : decode prog_14_method_9_code 5 = .ok (.ifCond .eq 11, 3) := by decide +kernel
theorem d_MD_put_8 : decode prog_14_method_9_code 8 = .ok (.aload_n 0, 1) := by decide +kernel
theorem d_MD_put_9 : decode prog_14_method_9_code 9 = .ok (.iload_n 2, 1) := by decide +kernel
theorem d_MD_put_10 : decode prog_14_method_9_code 10 = .ok (.invokevirtual 90, 3) := by decide +kernel
theorem d_MD_put_13 : decode prog_14_method_9_code 13 = .ok (.ifCond .ne 9, 3) := by decide +kernel
theorem d_MD_put_16 : decode prog_14_method_9_code 16 = .ok (.aload_n 0, 1) := by decide +kernel
theorem d_MD_put_17 : decode prog_14_method_9_code 17 = .ok (.iconst (-1), 1) := by decide +kernel
theorem d_MD_put_18 : decode prog_14_method_9_code 18 = .ok (.invokevirtual 79, 3) := by decide +kernel
theorem d_MD_put_21 : decode prog_14_method_9_code 21 = .ok (.ireturn, 1) := by decide +kernel
theorem d_MD_put_22 : decode prog_14_method_9_code 22 = .ok (.aload_n 0, 1) := by decide +kernel
theorem d_MD_put_23 : decode prog_14_method_9_code 23 = .ok (.getfield 16, 3) := by decide +kernel
theorem d_MD_put_26 : decode prog_14_method_9_code 26 = .ok (.bipush 24, 2) := by decide +kernel
theorem d_MD_put_28 : decode prog_14_method_9_code 28 = .ok (.iload_n 1, 1) := by decide +kernel
theorem d_MD_put_29 : decode prog_14_method_9_code 29 = .ok (.imul, 1) := by decide +kernel
theorem d_MD_put_30 : decode prog_14_method_9_code 30 = .ok (.iload_n 2, 1) := by decide +kernel
theorem d_MD_put_31 : decode prog_14_method_9_code 31 = .ok (.iadd, 1) := by decide +kernel
theorem d_MD_put_32 : decode prog_14_method_9_code 32 = .ok (.iaload, 1) := by decide +kernel
theorem d_MD_put_33 : decode prog_14_method_9_code 33 = .ok (.istore 4, 2) := by decide +kernel
theorem d_MD_put_35 : decode prog_14_method_9_code 35 = .ok (.aload_n 0, 1) := by decide +kernel
theorem d_MD_put_36 : decode prog_14_method_9_code 36 = .ok (.getfield 16, 3) := by decide +kernel
theorem d_MD_put_39 : decode prog_14_method_9_code 39 = .ok (.bipush 24, 2) := by decide +kernel
theorem d_MD_put_41 : decode prog_14_method_9_code 41 = .ok (.iload_n 1, 1) := by decide +kernel
theorem d_MD_put_42 : decode prog_14_method_9_code 42 = .ok (.imul, 1) := by decide +kernel
theorem d_MD_put_43 : decode prog_14_method_9_code 43 = .ok (.iload_n 2, 1) := by decide +kernel
theorem d_MD_put_44 : decode prog_14_method_9_code 44 = .ok (.iadd, 1) := by decide +kernel
theorem d_MD_put_45 : decode prog_14_method_9_code 45 = .ok (.aload_n 0, 1) := by decide +kernel
theorem d_MD_put_46 : decode prog_14_method_9_code 46 = .ok (.iload_n 3, 1) := by decide +kernel
theorem d_MD_put_47 : decode prog_14_method_9_code 47 = .ok (.i2l, 1) := by decide +kernel
theorem d_MD_put_48 : decode prog_14_method_9_code 48 = .ok (.invokevirtual 94, 3) := by decide +kernel
theorem d_MD_put_51 : decode prog_14_method_9_code 51 = .ok (.iastore, 1) := by decide +kernel
theorem d_MD_put_52 : decode prog_14_method_9_code 52 = .ok (.aload_n 0, 1) := by decide +kernel
theorem d_MD_put_53 : decode prog_14_method_9_code 53 = .ok (.getfield 16, 3) := by decide +kernel
theorem d_MD_put_56 : decode prog_14_method_9_code 56 = .ok (.bipush 24, 2) := by decide +kernel
theorem d_MD_put_58 : decode prog_14_method_9_code 58 = .ok (.iload_n 2, 1) := by decide +kernel
theorem d_MD_put_59 : decode prog_14_method_9_code 59 = .ok (.imul, 1) := by decide +kernel
theorem d_MD_put_60 : decode prog_14_method_9_code 60 = .ok (.iload_n 1, 1) := by decide +kernel
theorem d_MD_put_61 : decode prog_14_method_9_code 61 = .ok (.iadd, 1) := by decide +kernel
theorem d_MD_put_62 : decode prog_14_method_9_code 62 = .ok (.aload_n 0, 1) := by decide +kernel
theorem d_MD_put_63 : decode prog_14_method_9_code 63 = .ok (.iload_n 3, 1) := by decide +kernel
theorem d_MD_put_64 : decode prog_14_method_9_code 64 = .ok (.i2l, 1) := by decide +kernel
theorem d_MD_put_65 : decode prog_14_method_9_code 65 = .ok (.invokevirtual 94, 3) := by decide +kernel
theorem d_MD_put_68 : decode prog_14_method_9_code 68 = .ok (.iastore, 1) := by decide +kernel
theorem d_MD_put_69 : decode prog_14_method_9_code 69 = .ok (.aload_n 0, 1) := by decide +kernel
theorem d_MD_put_70 : decode prog_14_method_9_code 70 = .ok (.invokevirtual 83, 3) := by decide +kernel
theorem d_MD_put_73 : decode prog_14_method_9_code 73 = .ok (.aload_n 0, 1) := by decide +kernel
theorem d_MD_put_74 : decode prog_14_method_9_code 74 = .ok (.iconst (-1), 1) := by decide +kernel
theorem d_MD_put_75 : decode prog_14_method_9_code 75 = .ok (.putfield 48, 3) := by decide +kernel
theorem d_MD_put_78 : decode prog_14_method_9_code 78 = .ok (.aload_n 0, 1) := by decide +kernel
theorem d_MD_put_79 : decode prog_14_method_9_code 79 = .ok (.invokevirtual 86, 3) := by decide +kernel
theorem d_MD_put_82 : decode prog_14_method_9_code 82 = .ok (.istore 5, 2) := by decide +kernel
theorem d_MD_put_84 : decode prog_14_method_9_code 84 = .ok (.iload 4, 2) := by decide +kernel
theorem d_MD_put_86 : decode prog_14_method_9_code 86 = .ok (.ireturn, 1) := by decide +kernel
def MD_put_16 (h0 : Nat) (I : jM) (K : Int32 → jM → Prop) : Prop :=
  MD_refuse h0 (-1 : Int32) I (fun r_1 I_2 => K r_1 I_2)
set_option maxRecDepth 100000 in
set_option maxHeartbeats 4000000 in
theorem k_MD_put_16 {Z : jZ} {E : jE} (C : jC Z E prog_14_method_9_code 6 "OutOrderModel" 2 43) (hr : (jZh Z).sig.returnType = (some .int)) (hE : E.2.2.2 = jLM)  (h0 : Nat) (I : jM) (g_h0 : jOB E 11 h0) {K : Int32 → jM → Prop} (h : MD_put_16 h0 I K) : jJ Z E 6 (jQi Z E K) 16 [(0, .ref (E.2.2.1 h0))] [] I := by
  unfold MD_put_16 at h
  refine j_aload_n C d_MD_put_16 rfl 0 rfl ?_
  refine j_iconst C d_MD_put_17 ic_m1 ?_
  refine j_callVi (As := [.int (-1 : Int32)]) C jcl_MD cw_MD_79 w_809 ws_23 g_h0 rfl rfl (by decide) (by decide) (Nat.le_of_ble_eq_true rfl) d_MD_put_18 (s_MD_refuse C.ok hE g_h0 h) (fun r_1 I_2 h => ?_)
  exact j_iret C hr d_MD_put_21 h
/-- OutOrderModel.put(III)I -/
def MD_put (h0 : Nat) (v1 : Int32) (v2 : Int32) (v3 : Int32) (I : jM) (K : Int32 → jM → Prop) : Prop :=
  MD_isUnknown h0 v1 I (fun r_1 => ((r_1 = 0 → MD_put_16 h0 I K) ∧ (¬ r_1 = 0 → MD_isUnknown h0 v2 I (fun r_2 => ((¬ r_2 = 0 → (vp_in (((24 : Int32) * v1) + v2) 576 ∧ (∀ v4_3 : Int32, v4_3 = (I (jr h0 2) (((24 : Int32) * v1) + v2).toNatClampNeg) → MD_modulo h0 v3.toInt64 I (fun r_4 => (vp_in (((24 : Int32) * v1) + v2) 576 ∧ (∀ I_5 : jM, I_5 = jwr I (jr h0 2) (((24 : Int32) * v1) + v2).toNatClampNeg r_4 → MD_modulo h0 v3.toInt64 I_5 (fun r_6 => (vp_in (((24 : Int32) * v2) + v1) 576 ∧ (∀ I_7 : jM, I_7 = jwr I_5 (jr h0 2) (((24 : Int32) * v2) + v1).toNatClampNeg r_6 → MD_notWorked h0 I_7 (fun I_9 => (∀ I_10 : jM, I_10 = jwr I_9 h0 13 (-1 : Int32) → MD_begin h0 I_10 (fun r_11 I_12 => K v4_3 I_12)))))))))))) ∧ (r_2 = 0 → MD_put_16 h0 I K))))))
set_option maxRecDepth 100000 in
set_option maxHeartbeats 4000000 in
theorem s_MD_put {l : Launch} {E : jE} (ok : jOK E) (hE : E.2.2.2 = jLM) {h0 : Nat} {v1 : Int32} {v2 : Int32} {v3 : Int32} (g_h0 : jOB E 11 h0) {I : jM} {K : Int32 → jM → Prop} (h : MD_put h0 v1 v2 v3 I K) : jSi l E ⟨"OutOrderModel", "put", "(III)I"⟩ prog_14_method_9_code 6 (some .int) 2 43 [.ref (E.2.2.1 h0), .int v1, .int v2, .int v3] I K := by
  refine jS_ofF (own := "OutOrderModel") (by decide +kernel) rfl ok (Nat.le_of_ble_eq_true rfl) (fun Z _ C hr => ?_)
  show jJ Z E 6 (jQi Z E K) 0 [(0, .ref (E.2.2.1 h0)), (1, .int v1), (2, .int v2), (3, .int v3)] [] I
  unfold MD_put at h
  refine j_aload_n C d_MD_put_0 rfl 0 rfl ?_
  refine j_iload_n C d_MD_put_1 rfl 1 rfl ?_
  refine j_callVi (As := [.int v1]) C jcl_MD cw_MD_90 w_829 ws_26 g_h0 rfl rfl (by decide) (by decide) (Nat.le_of_ble_eq_true rfl) d_MD_put_2 (s_MD_isUnknown C.ok g_h0 h) (fun r_1 I2 h => ?_)
  obtain ⟨rfl, h⟩ := h
  refine j_if_eq C d_MD_put_5 (tgt := 16) (by decide) (fun c5 => ?_) (fun c5 => ?_)
  · have h := h.1 c5
    refine j_lv [0] rfl ?_
    exact k_MD_put_16 C hr hE h0 I g_h0 h
  · have h := h.2 c5
    refine j_aload_n C d_MD_put_8 rfl 0 rfl ?_
    refine j_iload_n C d_MD_put_9 rfl 2 rfl ?_
    refine j_callVi (As := [.int v2]) C jcl_MD cw_MD_90 w_829 ws_26 g_h0 rfl rfl (by decide) (by decide) (Nat.le_of_ble_eq_true rfl) d_MD_put_10 (s_MD_isUnknown C.ok g_h0 h) (fun r_2 I2 h => ?_)
    obtain ⟨rfl, h⟩ := h
    refine j_if_ne C d_MD_put_13 (tgt := 22) (by decide) (fun c13 => ?_) (fun c13 => ?_)
    · have h := h.1 c13
      refine j_aload_n C d_MD_put_22 rfl 0 rfl ?_
      refine fg_MD_16 C g_h0 d_MD_put_23 ?_
      refine j_bipush C d_MD_put_26 ib_24 ?_
      refine j_iload_n C d_MD_put_28 rfl 1 rfl ?_
      refine j_imul C d_MD_put_29 ?_
      refine j_iload_n C d_MD_put_30 rfl 2 rfl ?_
      refine j_iadd C d_MD_put_31 ?_
      obtain ⟨hi, h⟩ := h
      refine j_iaload C (sh_MD_2 hE g_h0) hi d_MD_put_32 ?_
      refine j_topi (fun v4_3 ev4_3 => ?_)
      have h := h v4_3 ev4_3
      refine j_istore C d_MD_put_33 (by decide) (lv' := [(4, .int v4_3), (0, .ref (E.2.2.1 h0)), (1, .int v1), (2, .int v2), (3, .int v3)]) rfl ?_
      refine j_aload_n C d_MD_put_35 rfl 1 rfl ?_
      refine fg_MD_16 C g_h0 d_MD_put_36 ?_
      refine j_bipush C d_MD_put_39 ib_24 ?_
      refine j_iload_n C d_MD_put_41 rfl 2 rfl ?_
      refine j_imul C d_MD_put_42 ?_
      refine j_iload_n C d_MD_put_43 rfl 3 rfl ?_
      refine j_iadd C d_MD_put_44 ?_
      refine j_aload_n C d_MD_put_45 rfl 1 rfl ?_
      refine j_iload_n C d_MD_put_46 rfl 4 rfl ?_
      refine j_i2l C d_MD_put_47 ?_
      refine j_callVi (As := [.long v3.toInt64]) C jcl_MD cw_MD_94 w_836 ws_27 g_h0 rfl rfl (by decide) (by decide) (Nat.le_of_ble_eq_true rfl) d_MD_put_48 (s_MD_modulo C.ok g_h0 h) (fun r_4 I2 h => ?_)
      obtain ⟨rfl, h⟩ := h
      obtain ⟨hi, h⟩ := h
      refine j_iastore C (sh_MD_2 hE g_h0) hi d_MD_put_51 ?_
      have h := h _ rfl
      generalize eI_5 : (jwr I (jr h0 2) (((24 : Int32) * v1) + v2).toNatClampNeg r_4 : jM) = I_5 at h ⊢
      refine j_aload_n C d_MD_put_52 rfl 1 rfl ?_
      refine fg_MD_16 C g_h0 d_MD_put_53 ?_
      refine j_bipush C d_MD_put_56 ib_24 ?_
      refine j_iload_n C d_MD_put_58 rfl 3 rfl ?_
      refine j_imul C d_MD_put_59 ?_
      refine j_iload_n C d_MD_put_60 rfl 2 rfl ?_
      refine j_iadd C d_MD_put_61 ?_
      refine j_aload_n C d_MD_put_62 rfl 1 rfl ?_
      refine j_iload_n C d_MD_put_63 rfl 4 rfl ?_
      refine j_i2l C d_MD_put_64 ?_
      refine j_callVi (As := [.long v3.toInt64]) C jcl_MD cw_MD_94 w_836 ws_27 g_h0 rfl rfl (by decide) (by decide) (Nat.le_of_ble_eq_true rfl) d_MD_put_65 (s_MD_modulo C.ok g_h0 h) (fun r_6 I2 h => ?_)
      obtain ⟨rfl, h⟩ := h
      obtain ⟨hi, h⟩ := h
      refine j_iastore C (sh_MD_2 hE g_h0) hi d_MD_put_68 ?_
      have h := h _ rfl
      generalize eI_7 : (jwr I_5 (jr h0 2) (((24 : Int32) * v2) + v1).toNatClampNeg r_6 : jM) = I_7 at h ⊢
      refine j_aload_n C d_MD_put_69 rfl 1 rfl ?_
      refine j_callVv (As := []) C jcl_MD cw_MD_83 w_813 ws_24 g_h0 rfl rfl (by decide) (by decide) (Nat.le_of_ble_eq_true rfl) d_MD_put_70 (s_MD_notWorked C.ok g_h0 h) (fun I_9 h => ?_)
      refine j_aload_n C d_MD_put_73 rfl 1 rfl ?_
      refine j_iconst C d_MD_put_74 ic_m1 ?_
      refine fp_MD_48 C g_h0 d_MD_put_75 ?_
      have h := h _ rfl
      generalize eI_10 : (jwr I_9 h0 13 (-1 : Int32) : jM) = I_10 at h ⊢
      refine j_aload_n C d_MD_put_78 rfl 1 rfl ?_
      refine j_callVi (As := []) C jcl_MD cw_MD_86 w_816 w_817 g_h0 rfl rfl (by decide) (by decide) (Nat.le_of_ble_eq_true rfl) d_MD_put_79 (s_MD_begin C.ok hE g_h0 h) (fun r_11 I_12 h => ?_)
      refine j_istore C d_MD_put_82 (by decide) (lv' := [(5, .int r_11), (4, .int v4_3), (0, .ref (E.2.2.1 h0)), (1, .int v1), (2, .int v2), (3, .int v3)]) rfl ?_
      refine j_iload C d_MD_put_84 1 rfl ?_
      exact j_iret C hr d_MD_put_86 h
    · have h := h.2 c13
      refine j_lv [0] rfl ?_
      exact k_MD_put_16 C hr hE h0 I g_h0 h
theorem d_MD_rest_0 : decode prog_14_method_49_code 0 = .ok (.aload_n 0, 1) := by decide +kernel
theorem d_MD_rest_1 : decode prog_14_method_49_code 1 = .ok (.getfield 16, 3) := by decide +kernel
theorem d_MD_rest_4 : decode prog_14_method_49_code 4 = .ok (.bipush 24, 2) := by decide +kernel
theorem d_MD_rest_6 : decode prog_14_method_49_code 6 = .ok (.iload_n 1, 1) := by decide +kernel
theorem d_MD_rest_7 : decode prog_14_method_49_code 7 = .ok (.imul, 1) := by decide +kernel
theorem d_MD_rest_8 : decode prog_14_method_49_code 8 = .ok (.iload_n 2, 1) := by decide +kernel
theorem d_MD_rest_9 : decode prog_14_method_49_code 9 = .ok (.iadd, 1) := by decide +kernel
theorem d_MD_rest_10 : decode prog_14_method_49_code 10 = .ok (.iaload, 1) := by decide +kernel
theorem d_MD_rest_11 : decode prog_14_method_49_code 11 = .ok (.i2l, 1) := by decide +kernel
theorem d_MD_rest_12 : decode prog_14_method_49_code 12 = .ok (.lstore 4, 2) := by decide +kernel
theorem d_MD_rest_14 : decode prog_14_method_49_code 14 = .ok (.iconst 0, 1) := by decide +kernel
theorem d_MD_rest_15 : decode prog_14_method_49_code 15 = .ok (.istore 6, 2) := by decide +kernel
theorem d_MD_rest_17 : decode prog_14_method_49_code 17 = .ok (.iload 6, 2) := by decide +kernel
theorem d_MD_rest_19 : decode prog_14_method_49_code 19 = .ok (.iload_n 3, 1) := by decide +kernel
theorem d_MD_rest_20 : decode prog_14_method_49_code 20 = .ok (.if_icmp .ge 76, 3) := by decide +kernel
theorem d_MD_rest_23 : decode prog_14_method_49_code 23 = .ok (.aload_n 0, 1) := by decide +kernel
theorem d_MD_rest_24 : decode prog_14_method_49_code 24 = .ok (.getfield 24, 3) := by decide +kernel
theorem d_MD_rest_27 : decode prog_14_method_49_code 27 = .ok (.iload 6, 2) := by decide +kernel
theorem d_MD_rest_29 : decode prog_14_method_49_code 29 = .ok (.iaload, 1) := by decide +kernel
theorem d_MD_rest_30 : decode prog_14_method_49_code 30 = .ok (.istore 7, 2) := by decide +kernel
theorem d_MD_rest_32 : decode prog_14_method_49_code 32 = .ok (.aload_n 0, 1) := by decide +kernel
theorem d_MD_rest_33 : decode prog_14_method_49_code 33 = .ok (.lload 4, 2) := by decide +kernel
theorem d_MD_rest_35 : decode prog_14_method_49_code 35 = .ok (.aload_n 0, 1) := by decide +kernel
theorem d_MD_rest_36 : decode prog_14_method_49_code 36 = .ok (.getfield 66, 3) := by decide +kernel
theorem d_MD_rest_39 : decode prog_14_method_49_code 39 = .ok (.bipush 24, 2) := by decide +kernel
theorem d_MD_rest_41 : decode prog_14_method_49_code 41 = .ok (.iload_n 1, 1) := by decide +kernel
theorem d_MD_rest_42 : decode prog_14_method_49_code 42 = .ok (.imul, 1) := by decide +kernel
theorem d_MD_rest_43 : decode prog_14_method_49_code 43 = .ok (.iload 7, 2) := by decide +kernel
theorem d_MD_rest_45 : decode prog_14_method_49_code 45 = .ok (.iadd, 1) := by decide +kernel
theorem d_MD_rest_46 : decode prog_14_method_49_code 46 = .ok (.iaload, 1) := by decide +kernel
theorem d_MD_rest_47 : decode prog_14_method_49_code 47 = .ok (.i2l, 1) := by decide +kernel
theorem d_MD_rest_48 : decode prog_14_method_49_code 48 = .ok (.aload_n 0, 1) := by decide +kernel
theorem d_MD_rest_49 : decode prog_14_method_49_code 49 = .ok (.getfield 66, 3) := by decide +kernel
theorem d_MD_rest_52 : decode prog_14_method_49_code 52 = .ok (.bipush 24, 2) := by decide +kernel
theorem d_MD_rest_54 : decode prog_14_method_49_code 54 = .ok (.iload_n 2, 1) := by decide +kernel
theorem d_MD_rest_55 : decode prog_14_method_49_code 55 = .ok (.imul, 1) := by decide +kernel
theorem d_MD_rest_56 : decode prog_14_method_49_code 56 = .ok (.iload 7, 2) := by decide +kernel
theorem d_MD_rest_58 : decode prog_14_method_49_code 58 = .ok (.iadd, 1) := by decide +kernel
theorem d_MD_rest_59 : decode prog_14_method_49_code 59 = .ok (.iaload, 1) := by decide +kernel
theorem d_MD_rest_60 : decode prog_14_method_49_code 60 = .ok (.i2l, 1) := by decide +kernel
theorem d_MD_rest_61 : decode prog_14_method_49_code 61 = .ok (.lmul, 1) := by decide +kernel
theorem d_MD_rest_62 : decode prog_14_method_49_code 62 = .ok (.aload_n 0, 1) := by decide +kernel
theorem d_MD_rest_63 : decode prog_14_method_49_code 63 = .ok (.getfield 13, 3) := by decide +kernel
theorem d_MD_rest_66 : decode prog_14_method_49_code 66 = .ok (.i2l, 1) := by decide +kernel
theorem d_MD_rest_67 : decode prog_14_method_49_code 67 = .ok (.lrem, 1) := by decide +kernel
theorem d_MD_rest_68 : decode prog_14_method_49_code 68 = .ok (.aload_n 0, 1) := by decide +kernel
theorem d_MD_rest_69 : decode prog_14_method_49_code 69 = .ok (.getfield 63, 3) := by decide +kernel
theorem d_MD_rest_72 : decode prog_14_method_49_code 72 = .ok (.iload 7, 2) := by decide +kernel
theorem d_MD_rest_74 : decode prog_14_method_49_code 74 = .ok (.iaload, 1) := by decide +kernel
theorem d_MD_rest_75 : decode prog_14_method_49_code 75 = .ok (.i2l, 1) := by decide +kernel
theorem d_MD_rest_76 : decode prog_14_method_49_code 76 = .ok (.lmul, 1) := by decide +kernel
theorem d_MD_rest_77 : decode prog_14_method_49_code 77 = .ok (.aload_n 0, 1) := by decide +kernel
theorem d_MD_rest_78 : decode prog_14_method_49_code 78 = .ok (.getfield 13, 3) := by decide +kernel
theorem d_MD_rest_81 : decode prog_14_method_49_code 81 = .ok (.i2l, 1) := by decide +kernel
theorem d_MD_rest_82 : decode prog_14_method_49_code 82 = .ok (.lrem, 1) := by decide +kernel
theorem d_MD_rest_83 : decode prog_14_method_49_code 83 = .ok (.lsub, 1) := by decide +kernel
theorem d_MD_rest_84 : decode prog_14_method_49_code 84 = .ok (.invokevirtual 94, 3) := by decide +kernel
theorem d_MD_rest_87 : decode prog_14_method_49_code 87 = .ok (.i2l, 1) := by decide +kernel
theorem d_MD_rest_88 : decode prog_14_method_49_code 88 = .ok (.lstore 4, 2) := by decide +kernel
theorem d_MD_rest_90 : decode prog_14_method_49_code 90 = .ok (.iinc 6 1, 3) := by decide +kernel
theorem d_MD_rest_93 : decode prog_14_method_49_code 93 = .ok (.goto (-76), 3) := by decide +kernel
theorem d_MD_rest_96 : decode prog_14_method_49_code 96 = .ok (.aload_n 0, 1) := by decide +kernel
theorem d_MD_rest_97 : decode prog_14_method_49_code 97 = .ok (.lload 4, 2) := by decide +kernel
theorem d_MD_rest_99 : decode prog_14_method_49_code 99 = .ok (.invokevirtual 94, 3) := by decide +kernel
theorem d_MD_rest_102 : decode prog_14_method_49_code 102 = .ok (.ireturn, 1) := by decide +kernel
def MD_rest_17b (h0 : Nat) (v1 : Int32) (v2 : Int32) (v3 : Int32) (w4 : Int64) (v6 : Int32) (I : jM) (K : Int32 → Prop) (X17 : Int64 × Int32 → Prop) : Prop :=
  ((v3 ≤ v6 → MD_modulo h0 w4 I (fun r_1 => K r_1)) ∧ (¬ v3 ≤ v6 → (vp_in v6 24 ∧ (∀ v7_2 : Int32, v7_2 = (I (jr h0 4) v6.toNatClampNeg) → (vp_in (((24 : Int32) * v1) + v7_2) 576 ∧ (vp_in (((24 : Int32) * v2) + v7_2) 576 ∧ (¬ (I h0 1).toInt64 = 0 ∧ (vp_in v7_2 24 ∧ (¬ (I h0 1).toInt64 = 0 ∧ MD_modulo h0 (w4 - (((((I (jr h0 21) (((24 : Int32) * v1) + v7_2).toNatClampNeg).toInt64 * (I (jr h0 21) (((24 : Int32) * v2) + v7_2).toNatClampNeg).toInt64) - ((I (jr h0 21) (((24 : Int32) * v1) + v7_2).toNatClampNeg).toInt64 * (I (jr h0 21) (((24 : Int32) * v2) + v7_2).toNatClampNeg).toInt64) / (I h0 1).toInt64 * (I h0 1).toInt64) * (I (jr h0 20) v7_2.toNatClampNeg).toInt64) - ((((I (jr h0 21) (((24 : Int32) * v1) + v7_2).toNatClampNeg).toInt64 * (I (jr h0 21) (((24 : Int32) * v2) + v7_2).toNatClampNeg).toInt64) - ((I (jr h0 21) (((24 : Int32) * v1) + v7_2).toNatClampNeg).toInt64 * (I (jr h0 21) (((24 : Int32) * v2) + v7_2).toNatClampNeg).toInt64) / (I h0 1).toInt64 * (I h0 1).toInt64) * (I (jr h0 20) v7_2.toNatClampNeg).toInt64) / (I h0 1).toInt64 * (I h0 1).toInt64)) I (fun r_3 => X17 (r_3.toInt64, (v6 + 1))))))))))))
def MD_rest_17 (h0 : Nat) (v1 : Int32) (v2 : Int32) (v3 : Int32) (w4 : Int64) (v6 : Int32) (I : jM) (K : Int32 → Prop) : Prop :=
  lp (fun (X17 : Int64 × Int32 → Prop) (s : Int64 × Int32) => MD_rest_17b h0 v1 v2 v3 s.1 s.2 I K X17) (w4, v6)
set_option maxRecDepth 100000 in
set_option maxHeartbeats 4000000 in
theorem kb_MD_rest_17 {Z : jZ} {E : jE} (C : jC Z E prog_14_method_49_code 8 "OutOrderModel" 1 24) (hr : (jZh Z).sig.returnType = (some .int)) (hE : E.2.2.2 = jLM)  (h0 : Nat) (v1 : Int32) (v2 : Int32) (v3 : Int32) (w4 : Int64) (v6 : Int32) (I : jM) (g_h0 : jOB E 11 h0) {K : Int32 → Prop} {X17 : Int64 × Int32 → Prop} (hX17 : ∀ s : Int64 × Int32, X17 s → jJ Z E 8 (jQi Z E (fun r I2 => I = I2 ∧ K r)) 17 [(0, .ref (E.2.2.1 h0)), (1, .int v1), (2, .int v2), (3, .int v3), (4, .long s.1), (6, .int s.2)] [] I) (h : MD_rest_17b h0 v1 v2 v3 w4 v6 I K X17) : jJ Z E 8 (jQi Z E (fun r I2 => I = I2 ∧ K r)) 17 [(0, .ref (E.2.2.1 h0)), (1, .int v1), (2, .int v2), (3, .int v3), (4, .long w4), (6, .int v6)] [] I := by
  unfold MD_rest_17b at h
  refine j_iload C d_MD_rest_17 5 rfl ?_
  refine j_iload_n C d_MD_rest_19 rfl 3 rfl ?_
  refine j_icmp_ge C d_MD_rest_20 (tgt := 96) (by decide) (fun c20 => ?_) (fun c20 => ?_)
  · have h := h.1 c20
    refine j_aload_n C d_MD_rest_96 rfl 0 rfl ?_
    refine j_lload C d_MD_rest_97 4 rfl ?_
    refine j_callVi (As := [.long w4]) C jcl_MD cw_MD_94 w_836 ws_27 g_h0 rfl rfl (by decide) (by decide) (Nat.le_of_ble_eq_true rfl) d_MD_rest_99 (s_MD_modulo C.ok g_h0 h) (fun r_1 I2 h => ?_)
    obtain ⟨rfl, h⟩ := h
    exact j_iret C hr d_MD_rest_102 ⟨rfl, h⟩
  · have h := h.2 c20
    refine j_aload_n C d_MD_rest_23 rfl 0 rfl ?_
    refine fg_MD_24 C g_h0 d_MD_rest_24 ?_
    refine j_iload C d_MD_rest_27 5 rfl ?_
    obtain ⟨hi, h⟩ := h
    refine j_iaload C (sh_MD_4 hE g_h0) hi d_MD_rest_29 ?_
    refine j_topi (fun v7_2 ev7_2 => ?_)
    have h := h v7_2 ev7_2
    refine j_istore C d_MD_rest_30 (by decide) (lv' := [(7, .int v7_2), (0, .ref (E.2.2.1 h0)), (1, .int v1), (2, .int v2), (3, .int v3), (4, .long w4), (6, .int v6)]) rfl ?_
    refine j_aload_n C d_MD_rest_32 rfl 1 rfl ?_
    refine j_lload C d_MD_rest_33 5 rfl ?_
    refine j_aload_n C d_MD_rest_35 rfl 1 rfl ?_
    refine fg_MD_66 C g_h0 d_MD_rest_36 ?_
    refine j_bipush C d_MD_rest_39 ib_24 ?_
    refine j_iload_n C d_MD_rest_41 rfl 2 rfl ?_
    refine j_imul C d_MD_rest_42 ?_
    refine j_iload C d_MD_rest_43 0 rfl ?_
    refine j_iadd C d_MD_rest_45 ?_
    obtain ⟨hi, h⟩ := h
    refine j_iaload C (sh_MD_21 hE g_h0) hi d_MD_rest_46 ?_
    refine j_i2l C d_MD_rest_47 ?_
    refine j_aload_n C d_MD_rest_48 rfl 1 rfl ?_
    refine fg_MD_66 C g_h0 d_MD_rest_49 ?_
    refine j_bipush C d_MD_rest_52 ib_24 ?_
    refine j_iload_n C d_MD_rest_54 rfl 3 rfl ?_
    refine j_imul C d_MD_rest_55 ?_
    refine j_iload C d_MD_rest_56 0 rfl ?_
    refine j_iadd C d_MD_rest_58 ?_
    obtain ⟨hi, h⟩ := h
    refine j_iaload C (sh_MD_21 hE g_h0) hi d_MD_rest_59 ?_
    refine j_i2l C d_MD_rest_60 ?_
    refine j_lmul C d_MD_rest_61 ?_
    refine j_aload_n C d_MD_rest_62 rfl 1 rfl ?_
    refine fg_MD_13 C g_h0 d_MD_rest_63 ?_
    refine j_i2l C d_MD_rest_66 ?_
    obtain ⟨hn, h⟩ := h
    refine j_lrem C d_MD_rest_67 hn ?_
    refine j_aload_n C d_MD_rest_68 rfl 1 rfl ?_
    refine fg_MD_63 C g_h0 d_MD_rest_69 ?_
    refine j_iload C d_MD_rest_72 0 rfl ?_
    obtain ⟨hi, h⟩ := h
    refine j_iaload C (sh_MD_20 hE g_h0) hi d_MD_rest_74 ?_
    refine j_i2l C d_MD_rest_75 ?_
    refine j_lmul C d_MD_rest_76 ?_
    refine j_aload_n C d_MD_rest_77 rfl 1 rfl ?_
    refine fg_MD_13 C g_h0 d_MD_rest_78 ?_
    refine j_i2l C d_MD_rest_81 ?_
    obtain ⟨hn, h⟩ := h
    refine j_lrem C d_MD_rest_82 hn ?_
    refine j_lsub C d_MD_rest_83 ?_
    refine j_callVi (As := [.long (w4 - (((((I (jr h0 21) (((24 : Int32) * v1) + v7_2).toNatClampNeg).toInt64 * (I (jr h0 21) (((24 : Int32) * v2) + v7_2).toNatClampNeg).toInt64) - ((I (jr h0 21) (((24 : Int32) * v1) + v7_2).toNatClampNeg).toInt64 * (I (jr h0 21) (((24 : Int32) * v2) + v7_2).toNatClampNeg).toInt64) / (I h0 1).toInt64 * (I h0 1).toInt64) * (I (jr h0 20) v7_2.toNatClampNeg).toInt64) - ((((I (jr h0 21) (((24 : Int32) * v1) + v7_2).toNatClampNeg).toInt64 * (I (jr h0 21) (((24 : Int32) * v2) + v7_2).toNatClampNeg).toInt64) - ((I (jr h0 21) (((24 : Int32) * v1) + v7_2).toNatClampNeg).toInt64 * (I (jr h0 21) (((24 : Int32) * v2) + v7_2).toNatClampNeg).toInt64) / (I h0 1).toInt64 * (I h0 1).toInt64) * (I (jr h0 20) v7_2.toNatClampNeg).toInt64) / (I h0 1).toInt64 * (I h0 1).toInt64))]) C jcl_MD cw_MD_94 w_836 ws_27 g_h0 rfl rfl (by decide) (by decide) (Nat.le_of_ble_eq_true rfl) d_MD_rest_84 (s_MD_modulo C.ok g_h0 h) (fun r_3 I2 h => ?_)
    obtain ⟨rfl, h⟩ := h
    refine j_i2l C d_MD_rest_87 ?_
    refine j_lstore C d_MD_rest_88 (by decide) (lv' := [(4, .long r_3.toInt64), (7, .int v7_2), (0, .ref (E.2.2.1 h0)), (1, .int v1), (2, .int v2), (3, .int v3), (6, .int v6)]) rfl ?_
    refine j_iinc C d_MD_rest_90 6 rfl (v := (v6 + 1)) rfl (by decide) (lv' := [(6, .int (v6 + 1)), (4, .long r_3.toInt64), (7, .int v7_2), (0, .ref (E.2.2.1 h0)), (1, .int v1), (2, .int v2), (3, .int v3)]) rfl ?_
    refine j_goto C d_MD_rest_93 (tgt := 17) (by decide) ?_
    refine j_lv [3, 4, 5, 6, 1, 0] rfl ?_
    exact hX17 (r_3.toInt64, (v6 + 1)) h
theorem k_MD_rest_17 {Z : jZ} {E : jE} (C : jC Z E prog_14_method_49_code 8 "OutOrderModel" 1 24) (hr : (jZh Z).sig.returnType = (some .int)) (hE : E.2.2.2 = jLM)  (h0 : Nat) (v1 : Int32) (v2 : Int32) (v3 : Int32) (w4 : Int64) (v6 : Int32) (I : jM) (g_h0 : jOB E 11 h0) {K : Int32 → Prop} (h : MD_rest_17 h0 v1 v2 v3 w4 v6 I K) : jJ Z E 8 (jQi Z E (fun r I2 => I = I2 ∧ K r)) 17 [(0, .ref (E.2.2.1 h0)), (1, .int v1), (2, .int v2), (3, .int v3), (4, .long w4), (6, .int v6)] [] I := by
  unfold MD_rest_17 at h
  exact h (fun s => jJ Z E 8 (jQi Z E (fun r I2 => I = I2 ∧ K r)) 17 [(0, .ref (E.2.2.1 h0)), (1, .int v1), (2, .int v2), (3, .int v3), (4, .long s.1), (6, .int s.2)] [] I) (fun s hs => kb_MD_rest_17 C hr hE h0 v1 v2 v3 s.1 s.2 I g_h0 (fun s2 h2 => h2) hs)
/-- OutOrderModel.rest(III)I -/
def MD_rest (h0 : Nat) (v1 : Int32) (v2 : Int32) (v3 : Int32) (I : jM) (K : Int32 → Prop) : Prop :=
  (vp_in (((24 : Int32) * v1) + v2) 576 ∧ (∀ w4_1 : Int64, w4_1 = (I (jr h0 2) (((24 : Int32) * v1) + v2).toNatClampNeg).toInt64 → MD_rest_17 h0 v1 v2 v3 w4_1 (0 : Int32) I K))
set_option maxRecDepth 100000 in
set_option maxHeartbeats 4000000 in
theorem s_MD_rest {l : Launch} {E : jE} (ok : jOK E) (hE : E.2.2.2 = jLM) {h0 : Nat} {v1 : Int32} {v2 : Int32} {v3 : Int32} (g_h0 : jOB E 11 h0) {I : jM} {K : Int32 → Prop} (h : MD_rest h0 v1 v2 v3 I K) : jSi l E ⟨"OutOrderModel", "rest", "(III)I"⟩ prog_14_method_49_code 8 (some .int) 1 24 [.ref (E.2.2.1 h0), .int v1, .int v2, .int v3] I (fun r I2 => I = I2 ∧ K r) := by
  refine jS_ofF (own := "OutOrderModel") (by decide +kernel) rfl ok (Nat.le_of_ble_eq_true rfl) (fun Z _ C hr => ?_)
  show jJ Z E 8 (jQi Z E (fun r I2 => I = I2 ∧ K r)) 0 [(0, .ref (E.2.2.1 h0)), (1, .int v1), (2, .int v2), (3, .int v3)] [] I
  unfold MD_rest at h
  refine j_aload_n C d_MD_rest_0 rfl 0 rfl ?_
  refine fg_MD_16 C g_h0 d_MD_rest_1 ?_
  refine j_bipush C d_MD_rest_4 ib_24 ?_
  refine j_iload_n C d_MD_rest_6 rfl 1 rfl ?_
  refine j_imul C d_MD_rest_7 ?_
  refine j_iload_n C d_MD_rest_8 rfl 2 rfl ?_
  refine j_iadd C d_MD_rest_9 ?_
  obtain ⟨hi, h⟩ := h
  refine j_iaload C (sh_MD_2 hE g_h0) hi d_MD_rest_10 ?_
  refine j_i2l C d_MD_rest_11 ?_
  refine j_topl (fun w4_1 ew4_1 => ?_)
  have h := h w4_1 ew4_1
  refine j_lstore C d_MD_rest_12 (by decide) (lv' := [(4, .long w4_1), (0, .ref (E.2.2.1 h0)), (1, .int v1), (2, .int v2), (3, .int v3)]) rfl ?_
  refine j_iconst C d_MD_rest_14 ic_0 ?_
  refine j_istore C d_MD_rest_15 (by decide) (lv' := [(6, .int (0 : Int32)), (4, .long w4_1), (0, .ref (E.2.2.1 h0)), (1, .int v1), (2, .int v2), (3, .int v3)]) rfl ?_
  refine j_lv [2, 3, 4, 5, 1, 0] rfl ?_
  exact k_MD_rest_17 C hr hE h0 v1 v2 v3 w4_1 (0 : Int32) I g_h0 h
theorem d_MD_steps_0 : decode prog_14_method_36_code 0 = .ok (.iconst 1, 1) := by decide +kernel
theorem d_MD_steps_1 : decode prog_14_method_36_code 1 = .ok (.iload_n 1, 1) := by decide +kernel
theorem d_MD_steps_2 : decode prog_14_method_36_code 2 = .ok (.ishl, 1) := by decide +kernel
theorem d_MD_steps_3 : decode prog_14_method_36_code 3 = .ok (.istore 4, 2) := by decide +kernel
theorem d_MD_steps_5 : decode prog_14_method_36_code 5 = .ok (.iconst 1, 1) := by decide +kernel
theorem d_MD_steps_6 : decode prog_14_method_36_code 6 = .ok (.iload_n 1, 1) := by decide +kernel
theorem d_MD_steps_7 : decode prog_14_method_36_code 7 = .ok (.ishl, 1) := by decide +kernel
theorem d_MD_steps_8 : decode prog_14_method_36_code 8 = .ok (.istore 5, 2) := by decide +kernel
theorem d_MD_steps_10 : decode prog_14_method_36_code 10 = .ok (.iconst 0, 1) := by decide +kernel
theorem d_MD_steps_11 : decode prog_14_method_36_code 11 = .ok (.istore 6, 2) := by decide +kernel
theorem d_MD_steps_13 : decode prog_14_method_36_code 13 = .ok (.iload 5, 2) := by decide +kernel
theorem d_MD_steps_15 : decode prog_14_method_36_code 15 = .ok (.ifCond .eq 96, 3) := by decide +kernel
theorem d_MD_steps_18 : decode prog_14_method_36_code 18 = .ok (.iconst 0, 1) := by decide +kernel
theorem d_MD_steps_19 : decode prog_14_method_36_code 19 = .ok (.istore 7, 2) := by decide +kernel
theorem d_MD_steps_21 : decode prog_14_method_36_code 21 = .ok (.iconst 0, 1) := by decide +kernel
theorem d_MD_steps_22 : decode prog_14_method_36_code 22 = .ok (.istore 8, 2) := by decide +kernel
theorem d_MD_steps_24 : decode prog_14_method_36_code 24 = .ok (.iload 8, 2) := by decide +kernel
theorem d_MD_steps_26 : decode prog_14_method_36_code 26 = .ok (.aload_n 0, 1) := by decide +kernel
theorem d_MD_steps_27 : decode prog_14_method_36_code 27 = .ok (.getfield 7, 3) := by decide +kernel
theorem d_MD_steps_30 : decode prog_14_method_36_code 30 = .ok (.if_icmp .ge 36, 3) := by decide +kernel
theorem d_MD_steps_33 : decode prog_14_method_36_code 33 = .ok (.iload 7, 2) := by decide +kernel
theorem d_MD_steps_35 : decode prog_14_method_36_code 35 = .ok (.iload 5, 2) := by decide +kernel
theorem d_MD_steps_37 : decode prog_14_method_36_code 37 = .ok (.iload 8, 2) := by decide +kernel
theorem d_MD_steps_39 : decode prog_14_method_36_code 39 = .ok (.ishr, 1) := by decide +kernel
theorem d_MD_steps_40 : decode prog_14_method_36_code 40 = .ok (.iconst 1, 1) := by decide +kernel
theorem d_MD_steps_41 : decode prog_14_method_36_code 41 = .ok (.iand, 1) := by decide +kernel
theorem d_MD_steps_42 : decode prog_14_method_36_code 42 = .ok (.iconst 1, 1) := by decide +kernel
theorem d_MD_steps_43 : decode prog_14_method_36_code 43 = .ok (.if_icmp .ne 13, 3) := by decide +kernel
theorem d_MD_steps_46 : decode prog_14_method_36_code 46 = .ok (.aload_n 0, 1) := by decide +kernel
theorem d_MD_steps_47 : decode prog_14_method_36_code 47 = .ok (.getfield 33, 3) := by decide +kernel
theorem d_MD_steps_50 : decode prog_14_method_36_code 50 = .ok (.iload 8, 2) := by decide +kernel
theorem d_MD_steps_52 : decode prog_14_method_36_code 52 = .ok (.iaload, 1) := by decide +kernel
theorem d_MD_steps_53 : decode prog_14_method_36_code 53 = .ok (.goto 4, 3) := by decide +kernel
theorem d_MD_steps_56 : decode prog_14_method_36_code 56 = .ok (.iconst 0, 1) := by decide +kernel
theorem d_MD_steps_57 : decode prog_14_method_36_code 57 = .ok (.ior, 1) := by decide +kernel
theorem d_MD_steps_58 : decode prog_14_method_36_code 58 = .ok (.istore 7, 2) := by decide +kernel
theorem d_MD_steps_60 : decode prog_14_method_36_code 60 = .ok (.iinc 8 1, 3) := by decide +kernel
theorem d_MD_steps_63 : decode prog_14_method_36_code 63 = .ok (.goto (-39), 3) := by decide +kernel
theorem d_MD_steps_66 : decode prog_14_method_36_code 66 = .ok (.iinc 6 1, 3) := by decide +kernel
theorem d_MD_steps_69 : decode prog_14_method_36_code 69 = .ok (.iload 7, 2) := by decide +kernel
theorem d_MD_steps_71 : decode prog_14_method_36_code 71 = .ok (.iload 4, 2) := by decide +kernel
theorem d_MD_steps_73 : decode prog_14_method_36_code 73 = .ok (.iconst (-1), 1) := by decide +kernel
theorem d_MD_steps_74 : decode prog_14_method_36_code 74 = .ok (.ixor, 1) := by decide +kernel
theorem d_MD_steps_75 : decode prog_14_method_36_code 75 = .ok (.iload_n 3, 1) := by decide +kernel
theorem d_MD_steps_76 : decode prog_14_method_36_code 76 = .ok (.iconst 1, 1) := by decide +kernel
theorem d_MD_steps_77 : decode prog_14_method_36_code 77 = .ok (.iload_n 2, 1) := by decide +kernel
theorem d_MD_steps_78 : decode prog_14_method_36_code 78 = .ok (.ishl, 1) := by decide +kernel
theorem d_MD_steps_79 : decode prog_14_method_36_code 79 = .ok (.ior, 1) := by decide +kernel
theorem d_MD_steps_80 : decode prog_14_method_36_code 80 = .ok (.iand, 1) := by decide +kernel
theorem d_MD_steps_81 : decode prog_14_method_36_code 81 = .ok (.iand, 1) := by decide +kernel
theorem d_MD_steps_82 : decode prog_14_method_36_code 82 = .ok (.istore 7, 2) := by decide +kernel
theorem d_MD_steps_84 : decode prog_14_method_36_code 84 = .ok (.iload 7, 2) := by decide +kernel
theorem d_MD_steps_86 : decode prog_14_method_36_code 86 = .ok (.iload_n 2, 1) := by decide +kernel
theorem d_MD_steps_87 : decode prog_14_method_36_code 87 = .ok (.ishr, 1) := by decide +kernel
theorem d_MD_steps_88 : decode prog_14_method_36_code 88 = .ok (.iconst 1, 1) := by decide +kernel
theorem d_MD_steps_89 : decode prog_14_method_36_code 89 = .ok (.iand, 1) := by decide +kernel
theorem d_MD_steps_90 : decode prog_14_method_36_code 90 = .ok (.iconst 1, 1) := by decide +kernel
theorem d_MD_steps_91 : decode prog_14_method_36_code 91 = .ok (.if_icmp .ne 6, 3) := by decide +kernel
theorem d_MD_steps_94 : decode prog_14_method_36_code 94 = .ok (.iload 6, 2) := by decide +kernel
theorem d_MD_steps_96 : decode prog_14_method_36_code 96 = .ok (.ireturn, 1) := by decide +kernel
theorem d_MD_steps_97 : decode prog_14_method_36_code 97 = .ok (.iload 4, 2) := by decide +kernel
theorem d_MD_steps_99 : decode prog_14_method_36_code 99 = .ok (.iload 7, 2) := by decide +kernel
theorem d_MD_steps_101 : decode prog_14_method_36_code 101 = .ok (.ior, 1) := by decide +kernel
theorem d_MD_steps_102 : decode prog_14_method_36_code 102 = .ok (.istore 4, 2) := by decide +kernel
theorem d_MD_steps_104 : decode prog_14_method_36_code 104 = .ok (.iload 7, 2) := by decide +kernel
theorem d_MD_steps_106 : decode prog_14_method_36_code 106 = .ok (.istore 5, 2) := by decide +kernel
theorem d_MD_steps_108 : decode prog_14_method_36_code 108 = .ok (.goto (-95), 3) := by decide +kernel
theorem d_MD_steps_111 : decode prog_14_method_36_code 111 = .ok (.iconst 0, 1) := by decide +kernel
theorem d_MD_steps_112 : decode prog_14_method_36_code 112 = .ok (.ireturn, 1) := by decide +kernel
def MD_steps_24b (h0 : Nat) (v2 : Int32) (v3 : Int32) (v4 : Int32) (v5 : Int32) (v6 : Int32) (v7 : Int32) (v8 : Int32) (I : jM) (K : Int32 → Prop) (X13 : Int32 × Int32 × Int32 → Prop) (X24 : Int32 × Int32 → Prop) : Prop :=
  (((I h0 0) ≤ v8 → (∀ v7_1 : Int32, v7_1 = (v7 &&& ((v4 ^^^ (-1 : Int32)) &&& (v3 ||| ((1 : Int32) <<< (v2 &&& 31))))) → ((¬ ((v7_1 >>> (v2 &&& 31)) &&& (1 : Int32)) = (1 : Int32) → (∀ v4_2 : Int32, v4_2 = (v4 ||| v7_1) → X13 (v4_2, v7_1, (v6 + 1)))) ∧ (((v7_1 >>> (v2 &&& 31)) &&& (1 : Int32)) = (1 : Int32) → K (v6 + 1))))) ∧ (¬ (I h0 0) ≤ v8 → ((¬ ((v5 >>> (v8 &&& 31)) &&& (1 : Int32)) = (1 : Int32) → (∀ v7_3 : Int32, v7_3 = (v7 ||| (0 : Int32)) → X24 (v7_3, (v8 + 1)))) ∧ (((v5 >>> (v8 &&& 31)) &&& (1 : Int32)) = (1 : Int32) → (vp_in v8 24 ∧ (∀ v7_4 : Int32, v7_4 = (v7 ||| (I (jr h0 7) v8.toNatClampNeg)) → X24 (v7_4, (v8 + 1))))))))
def MD_steps_24 (h0 : Nat) (v2 : Int32) (v3 : Int32) (v4 : Int32) (v5 : Int32) (v6 : Int32) (v7 : Int32) (v8 : Int32) (I : jM) (K : Int32 → Prop) (X13 : Int32 × Int32 × Int32 → Prop) : Prop :=
  lp (fun (X24 : Int32 × Int32 → Prop) (s : Int32 × Int32) => MD_steps_24b h0 v2 v3 v4 v5 v6 s.1 s.2 I K X13 X24) (v7, v8)
set_option maxRecDepth 100000 in
set_option maxHeartbeats 4000000 in
theorem kb_MD_steps_24 {Z : jZ} {E : jE} (C : jC Z E prog_14_method_36_code 9 "OutOrderModel" 0 0) (hr : (jZh Z).sig.returnType = (some .int)) (hE : E.2.2.2 = jLM)  (h0 : Nat) (v2 : Int32) (v3 : Int32) (v4 : Int32) (v5 : Int32) (v6 : Int32) (v7 : Int32) (v8 : Int32) (I : jM) (g_h0 : jOB E 11 h0) {K : Int32 → Prop} {X13 : Int32 × Int32 × Int32 → Prop} (hX13 : ∀ s : Int32 × Int32 × Int32, X13 s → jJ Z E 9 (jQi Z E (fun r I2 => I = I2 ∧ K r)) 13 [(0, .ref (E.2.2.1 h0)), (2, .int v2), (3, .int v3), (4, .int s.1), (5, .int s.2.1), (6, .int s.2.2)] [] I) {X24 : Int32 × Int32 → Prop} (hX24 : ∀ s : Int32 × Int32, X24 s → jJ Z E 9 (jQi Z E (fun r I2 => I = I2 ∧ K r)) 24 [(0, .ref (E.2.2.1 h0)), (2, .int v2), (3, .int v3), (4, .int v4), (5, .int v5), (6, .int v6), (7, .int s.1), (8, .int s.2)] [] I) (h : MD_steps_24b h0 v2 v3 v4 v5 v6 v7 v8 I K X13 X24) : jJ Z E 9 (jQi Z E (fun r I2 => I = I2 ∧ K r)) 24 [(0, .ref (E.2.2.1 h0)), (2, .int v2), (3, .int v3), (4, .int v4), (5, .int v5), (6, .int v6), (7, .int v7), (8, .int v8)] [] I := by
  unfold MD_steps_24b at h
  refine j_iload C d_MD_steps_24 7 rfl ?_
  refine j_aload_n C d_MD_steps_26 rfl 0 rfl ?_
  refine fg_MD_7 C g_h0 d_MD_steps_27 ?_
  refine j_icmp_ge C d_MD_steps_30 (tgt := 66) (by decide) (fun c30 => ?_) (fun c30 => ?_)
  · have h := h.1 c30
    refine j_iinc C d_MD_steps_66 5 rfl (v := (v6 + 1)) rfl (by decide) (lv' := [(6, .int (v6 + 1)), (0, .ref (E.2.2.1 h0)), (2, .int v2), (3, .int v3), (4, .int v4), (5, .int v5), (7, .int v7), (8, .int v8)]) rfl ?_
    refine j_iload C d_MD_steps_69 6 rfl ?_
    refine j_iload C d_MD_steps_71 4 rfl ?_
    refine j_iconst C d_MD_steps_73 ic_m1 ?_
    refine j_ixor C d_MD_steps_74 ?_
    refine j_iload_n C d_MD_steps_75 rfl 3 rfl ?_
    refine j_iconst C d_MD_steps_76 ic_1 ?_
    refine j_iload_n C d_MD_steps_77 rfl 2 rfl ?_
    refine j_ishl C d_MD_steps_78 ?_
    refine j_ior C d_MD_steps_79 ?_
    refine j_iand C d_MD_steps_80 ?_
    refine j_iand C d_MD_steps_81 ?_
    refine j_topi (fun v7_1 ev7_1 => ?_)
    have h := h v7_1 ev7_1
    refine j_istore C d_MD_steps_82 (by decide) (lv' := [(7, .int v7_1), (6, .int (v6 + 1)), (0, .ref (E.2.2.1 h0)), (2, .int v2), (3, .int v3), (4, .int v4), (5, .int v5), (8, .int v8)]) rfl ?_
    refine j_iload C d_MD_steps_84 0 rfl ?_
    refine j_iload_n C d_MD_steps_86 rfl 3 rfl ?_
    refine j_ishr C d_MD_steps_87 ?_
    refine j_iconst C d_MD_steps_88 ic_1 ?_
    refine j_iand C d_MD_steps_89 ?_
    refine j_iconst C d_MD_steps_90 ic_1 ?_
    refine j_icmp_ne C d_MD_steps_91 (tgt := 97) (by decide) (fun c91 => ?_) (fun c91 => ?_)
    · have h := h.1 c91
      refine j_iload C d_MD_steps_97 5 rfl ?_
      refine j_iload C d_MD_steps_99 0 rfl ?_
      refine j_ior C d_MD_steps_101 ?_
      refine j_topi (fun v4_2 ev4_2 => ?_)
      have h := h v4_2 ev4_2
      refine j_istore C d_MD_steps_102 (by decide) (lv' := [(4, .int v4_2), (7, .int v7_1), (6, .int (v6 + 1)), (0, .ref (E.2.2.1 h0)), (2, .int v2), (3, .int v3), (5, .int v5), (8, .int v8)]) rfl ?_
      refine j_iload C d_MD_steps_104 1 rfl ?_
      refine j_istore C d_MD_steps_106 (by decide) (lv' := [(5, .int v7_1), (4, .int v4_2), (7, .int v7_1), (6, .int (v6 + 1)), (0, .ref (E.2.2.1 h0)), (2, .int v2), (3, .int v3), (8, .int v8)]) rfl ?_
      refine j_goto C d_MD_steps_108 (tgt := 13) (by decide) ?_
      refine j_lv [4, 5, 6, 1, 0, 3] rfl ?_
      exact hX13 (v4_2, v7_1, (v6 + 1)) h
    · have h := h.2 c91
      refine j_iload C d_MD_steps_94 1 rfl ?_
      exact j_iret C hr d_MD_steps_96 ⟨rfl, h⟩
  · have h := h.2 c30
    refine j_iload C d_MD_steps_33 6 rfl ?_
    refine j_iload C d_MD_steps_35 4 rfl ?_
    refine j_iload C d_MD_steps_37 7 rfl ?_
    refine j_ishr C d_MD_steps_39 ?_
    refine j_iconst C d_MD_steps_40 ic_1 ?_
    refine j_iand C d_MD_steps_41 ?_
    refine j_iconst C d_MD_steps_42 ic_1 ?_
    refine j_icmp_ne C d_MD_steps_43 (tgt := 56) (by decide) (fun c43 => ?_) (fun c43 => ?_)
    · have h := h.1 c43
      refine j_iconst C d_MD_steps_56 ic_0 ?_
      refine j_ior C d_MD_steps_57 ?_
      refine j_topi (fun v7_3 ev7_3 => ?_)
      have h := h v7_3 ev7_3
      refine j_istore C d_MD_steps_58 (by decide) (lv' := [(7, .int v7_3), (0, .ref (E.2.2.1 h0)), (2, .int v2), (3, .int v3), (4, .int v4), (5, .int v5), (6, .int v6), (8, .int v8)]) rfl ?_
      refine j_iinc C d_MD_steps_60 7 rfl (v := (v8 + 1)) rfl (by decide) (lv' := [(8, .int (v8 + 1)), (7, .int v7_3), (0, .ref (E.2.2.1 h0)), (2, .int v2), (3, .int v3), (4, .int v4), (5, .int v5), (6, .int v6)]) rfl ?_
      refine j_goto C d_MD_steps_63 (tgt := 24) (by decide) ?_
      refine j_lv [2, 3, 4, 5, 6, 7, 1, 0] rfl ?_
      exact hX24 (v7_3, (v8 + 1)) h
    · have h := h.2 c43
      refine j_aload_n C d_MD_steps_46 rfl 0 rfl ?_
      refine fg_MD_33 C g_h0 d_MD_steps_47 ?_
      refine j_iload C d_MD_steps_50 7 rfl ?_
      obtain ⟨hi, h⟩ := h
      refine j_iaload C (sh_MD_7 hE g_h0) hi d_MD_steps_52 ?_
      refine j_goto C d_MD_steps_53 (tgt := 57) (by decide) ?_
      refine j_ior C d_MD_steps_57 ?_
      refine j_topi (fun v7_4 ev7_4 => ?_)
      have h := h v7_4 ev7_4
      refine j_istore C d_MD_steps_58 (by decide) (lv' := [(7, .int v7_4), (0, .ref (E.2.2.1 h0)), (2, .int v2), (3, .int v3), (4, .int v4), (5, .int v5), (6, .int v6), (8, .int v8)]) rfl ?_
      refine j_iinc C d_MD_steps_60 7 rfl (v := (v8 + 1)) rfl (by decide) (lv' := [(8, .int (v8 + 1)), (7, .int v7_4), (0, .ref (E.2.2.1 h0)), (2, .int v2), (3, .int v3), (4, .int v4), (5, .int v5), (6, .int v6)]) rfl ?_
      refine j_goto C d_MD_steps_63 (tgt := 24) (by decide) ?_
      refine j_lv [2, 3, 4, 5, 6, 7, 1, 0] rfl ?_
      exact hX24 (v7_4, (v8 + 1)) h
theorem k_MD_steps_24 {Z : jZ} {E : jE} (C : jC Z E prog_14_method_36_code 9 "OutOrderModel" 0 0) (hr : (jZh Z).sig.returnType = (some .int)) (hE : E.2.2.2 = jLM)  (h0 : Nat) (v2 : Int32) (v3 : Int32) (v4 : Int32) (v5 : Int32) (v6 : Int32) (v7 : Int32) (v8 : Int32) (I : jM) (g_h0 : jOB E 11 h0) {K : Int32 → Prop} {X13 : Int32 × Int32 × Int32 → Prop} (hX13 : ∀ s : Int32 × Int32 × Int32, X13 s → jJ Z E 9 (jQi Z E (fun r I2 => I = I2 ∧ K r)) 13 [(0, .ref (E.2.2.1 h0)), (2, .int v2), (3, .int v3), (4, .int s.1), (5, .int s.2.1), (6, .int s.2.2)] [] I) (h : MD_steps_24 h0 v2 v3 v4 v5 v6 v7 v8 I K X13) : jJ Z E 9 (jQi Z E (fun r I2 => I = I2 ∧ K r)) 24 [(0, .ref (E.2.2.1 h0)), (2, .int v2), (3, .int v3), (4, .int v4), (5, .int v5), (6, .int v6), (7, .int v7), (8, .int v8)] [] I := by
  unfold MD_steps_24 at h
  exact h (fun s => jJ Z E 9 (jQi Z E (fun r I2 => I = I2 ∧ K r)) 24 [(0, .ref (E.2.2.1 h0)), (2, .int v2), (3, .int v3), (4, .int v4), (5, .int v5), (6, .int v6), (7, .int s.1), (8, .int s.2)] [] I) (fun s hs => kb_MD_steps_24 C hr hE h0 v2 v3 v4 v5 v6 s.1 s.2 I g_h0 hX13 (fun s2 h2 => h2) hs)
def MD_steps_13b (h0 : Nat) (v2 : Int32) (v3 : Int32) (v4 : Int32) (v5 : Int32) (v6 : Int32) (I : jM) (K : Int32 → Prop) (X13 : Int32 × Int32 × Int32 → Prop) : Prop :=
  ((v5 = 0 → K (0 : Int32)) ∧ (¬ v5 = 0 → MD_steps_24 h0 v2 v3 v4 v5 v6 (0 : Int32) (0 : Int32) I K X13))
def MD_steps_13 (h0 : Nat) (v2 : Int32) (v3 : Int32) (v4 : Int32) (v5 : Int32) (v6 : Int32) (I : jM) (K : Int32 → Prop) : Prop :=
  lp (fun (X13 : Int32 × Int32 × Int32 → Prop) (s : Int32 × Int32 × Int32) => MD_steps_13b h0 v2 v3 s.1 s.2.1 s.2.2 I K X13) (v4, v5, v6)
set_option maxRecDepth 100000 in
set_option maxHeartbeats 4000000 in
theorem kb_MD_steps_13 {Z : jZ} {E : jE} (C : jC Z E prog_14_method_36_code 9 "OutOrderModel" 0 0) (hr : (jZh Z).sig.returnType = (some .int)) (hE : E.2.2.2 = jLM)  (h0 : Nat) (v2 : Int32) (v3 : Int32) (v4 : Int32) (v5 : Int32) (v6 : Int32) (I : jM) (g_h0 : jOB E 11 h0) {K : Int32 → Prop} {X13 : Int32 × Int32 × Int32 → Prop} (hX13 : ∀ s : Int32 × Int32 × Int32, X13 s → jJ Z E 9 (jQi Z E (fun r I2 => I = I2 ∧ K r)) 13 [(0, .ref (E.2.2.1 h0)), (2, .int v2), (3, .int v3), (4, .int s.1), (5, .int s.2.1), (6, .int s.2.2)] [] I) (h : MD_steps_13b h0 v2 v3 v4 v5 v6 I K X13) : jJ Z E 9 (jQi Z E (fun r I2 => I = I2 ∧ K r)) 13 [(0, .ref (E.2.2.1 h0)), (2, .int v2), (3, .int v3), (4, .int v4), (5, .int v5), (6, .int v6)] [] I := by
  unfold MD_steps_13b at h
  refine j_iload C d_MD_steps_13 4 rfl ?_
  refine j_if_eq C d_MD_steps_15 (tgt := 111) (by decide) (fun c15 => ?_) (fun c15 => ?_)
  · have h := h.1 c15
    refine j_iconst C d_MD_steps_111 ic_0 ?_
    exact j_iret C hr d_MD_steps_112 ⟨rfl, h⟩
  · have h := h.2 c15
    refine j_iconst C d_MD_steps_18 ic_0 ?_
    refine j_istore C d_MD_steps_19 (by decide) (lv' := [(7, .int (0 : Int32)), (0, .ref (E.2.2.1 h0)), (2, .int v2), (3, .int v3), (4, .int v4), (5, .int v5), (6, .int v6)]) rfl ?_
    refine j_iconst C d_MD_steps_21 ic_0 ?_
    refine j_istore C d_MD_steps_22 (by decide) (lv' := [(8, .int (0 : Int32)), (7, .int (0 : Int32)), (0, .ref (E.2.2.1 h0)), (2, .int v2), (3, .int v3), (4, .int v4), (5, .int v5), (6, .int v6)]) rfl ?_
    refine j_lv [2, 3, 4, 5, 6, 7, 1, 0] rfl ?_
    exact k_MD_steps_24 C hr hE h0 v2 v3 v4 v5 v6 (0 : Int32) (0 : Int32) I g_h0 hX13 h
theorem k_MD_steps_13 {Z : jZ} {E : jE} (C : jC Z E prog_14_method_36_code 9 "OutOrderModel" 0 0) (hr : (jZh Z).sig.returnType = (some .int)) (hE : E.2.2.2 = jLM)  (h0 : Nat) (v2 : Int32) (v3 : Int32) (v4 : Int32) (v5 : Int32) (v6 : Int32) (I : jM) (g_h0 : jOB E 11 h0) {K : Int32 → Prop} (h : MD_steps_13 h0 v2 v3 v4 v5 v6 I K) : jJ Z E 9 (jQi Z E (fun r I2 => I = I2 ∧ K r)) 13 [(0, .ref (E.2.2.1 h0)), (2, .int v2), (3, .int v3), (4, .int v4), (5, .int v5), (6, .int v6)] [] I := by
  unfold MD_steps_13 at h
  exact h (fun s => jJ Z E 9 (jQi Z E (fun r I2 => I = I2 ∧ K r)) 13 [(0, .ref (E.2.2.1 h0)), (2, .int v2), (3, .int v3), (4, .int s.1), (5, .int s.2.1), (6, .int s.2.2)] [] I) (fun s hs => kb_MD_steps_13 C hr hE h0 v2 v3 s.1 s.2.1 s.2.2 I g_h0 (fun s2 h2 => h2) hs)
/-- OutOrderModel.steps(III)I -/
def MD_steps (h0 : Nat) (v1 : Int32) (v2 : Int32) (v3 : Int32) (I : jM) (K : Int32 → Prop) : Prop :=
  (∀ v4_1 : Int32, v4_1 = ((1 : Int32) <<< (v1 &&& 31)) → (∀ v5_2 : Int32, v5_2 = ((1 : Int32) <<< (v1 &&& 31)) → MD_steps_13 h0 v2 v3 v4_1 v5_2 (0 : Int32) I K))
set_option maxRecDepth 100000 in
set_option maxHeartbeats 4000000 in
theorem s_MD_steps {l : Launch} {E : jE} (ok : jOK E) (hE : E.2.2.2 = jLM) {h0 : Nat} {v1 : Int32} {v2 : Int32} {v3 : Int32} (g_h0 : jOB E 11 h0) {I : jM} {K : Int32 → Prop} (h : MD_steps h0 v1 v2 v3 I K) : jSi l E ⟨"OutOrderModel", "steps", "(III)I"⟩ prog_14_method_36_code 9 (some .int) 0 0 [.ref (E.2.2.1 h0), .int v1, .int v2, .int v3] I (fun r I2 => I = I2 ∧ K r) := by
  refine jS_ofF (own := "OutOrderModel") (by decide +kernel) rfl ok (Nat.le_of_ble_eq_true rfl) (fun Z _ C hr => ?_)
  show jJ Z E 9 (jQi Z E (fun r I2 => I = I2 ∧ K r)) 0 [(0, .ref (E.2.2.1 h0)), (1, .int v1), (2, .int v2), (3, .int v3)] [] I
  unfold MD_steps at h
  refine j_iconst C d_MD_steps_0 ic_1 ?_
  refine j_iload_n C d_MD_steps_1 rfl 1 rfl ?_
  refine j_ishl C d_MD_steps_2 ?_
  refine j_topi (fun v4_1 ev4_1 => ?_)
  have h := h v4_1 ev4_1
  refine j_istore C d_MD_steps_3 (by decide) (lv' := [(4, .int v4_1), (0, .ref (E.2.2.1 h0)), (1, .int v1), (2, .int v2), (3, .int v3)]) rfl ?_
  refine j_iconst C d_MD_steps_5 ic_1 ?_
  refine j_iload_n C d_MD_steps_6 rfl 2 rfl ?_
  refine j_ishl C d_MD_steps_7 ?_
  refine j_topi (fun v5_2 ev5_2 => ?_)
  have h := h v5_2 ev5_2
  refine j_istore C d_MD_steps_8 (by decide) (lv' := [(5, .int v5_2), (4, .int v4_1), (0, .ref (E.2.2.1 h0)), (1, .int v1), (2, .int v2), (3, .int v3)]) rfl ?_
  refine j_iconst C d_MD_steps_10 ic_0 ?_
  refine j_istore C d_MD_steps_11 (by decide) (lv' := [(6, .int (0 : Int32)), (5, .int v5_2), (4, .int v4_1), (0, .ref (E.2.2.1 h0)), (1, .int v1), (2, .int v2), (3, .int v3)]) rfl ?_
  refine j_lv [3, 5, 6, 2, 1, 0] rfl ?_
  exact k_MD_steps_13 C hr hE h0 v2 v3 v4_1 v5_2 (0 : Int32) I g_h0 h
theorem d_MD_ring_0 : decode prog_14_method_37_code 0 = .ok (.aload_n 0, 1) := by decide +kernel
theorem d_MD_ring_1 : decode prog_14_method_37_code 1 = .ok (.invokevirtual 100, 3) := by decide +kernel
theorem d_MD_ring_4 : decode prog_14_method_37_code 4 = .ok (.iconst 0, 1) := by decide +kernel
theorem d_MD_ring_5 : decode prog_14_method_37_code 5 = .ok (.istore_n 1, 1) := by decide +kernel
theorem d_MD_ring_6 : decode prog_14_method_37_code 6 = .ok (.iconst 0, 1) := by decide +kernel
theorem d_MD_ring_7 : decode prog_14_method_37_code 7 = .ok (.istore_n 2, 1) := by decide +kernel
theorem d_MD_ring_8 : decode prog_14_method_37_code 8 = .ok (.iload_n 2, 1) := by decide +kernel
theorem d_MD_ring_9 : decode prog_14_method_37_code 9 = .ok (.aload_n 0, 1) := by decide +kernel
theorem d_MD_ring_10 : decode prog_14_method_37_code 10 = .ok (.getfield 7, 3) := by decide +kernel
theorem d_MD_ring_13 : decode prog_14_method_37_code 13 = .ok (.if_icmp .ge 170, 3) := by decide +kernel
theorem d_MD_ring_16 : decode prog_14_method_37_code 16 = .ok (.iconst 1, 1) := by decide +kernel
theorem d_MD_ring_17 : decode prog_14_method_37_code 17 = .ok (.aload_n 0, 1) := by decide +kernel
theorem d_MD_ring_18 : decode prog_14_method_37_code 18 = .ok (.getfield 7, 3) := by decide +kernel
theorem d_MD_ring_21 : decode prog_14_method_37_code 21 = .ok (.ishl, 1) := by decide +kernel
theorem d_MD_ring_22 : decode prog_14_method_37_code 22 = .ok (.iconst 1, 1) := by decide +kernel
theorem d_MD_ring_23 : decode prog_14_method_37_code 23 = .ok (.isub, 1) := by decide +kernel
theorem d_MD_ring_24 : decode prog_14_method_37_code 24 = .ok (.aload_n 0, 1) := by decide +kernel
theorem d_MD_ring_25 : decode prog_14_method_37_code 25 = .ok (.getfield 33, 3) := by decide +kernel
theorem d_MD_ring_28 : decode prog_14_method_37_code 28 = .ok (.iload_n 2, 1) := by decide +kernel
theorem d_MD_ring_29 : decode prog_14_method_37_code 29 = .ok (.iaload, 1) := by decide +kernel
theorem d_MD_ring_30 : decode prog_14_method_37_code 30 = .ok (.iconst (-1), 1) := by decide +kernel
theorem d_MD_ring_31 : decode prog_14_method_37_code 31 = .ok (.ixor, 1) := by decide +kernel
theorem d_MD_ring_32 : decode prog_14_method_37_code 32 = .ok (.iand, 1) := by decide +kernel
theorem d_MD_ring_33 : decode prog_14_method_37_code 33 = .ok (.iconst 1, 1) := by decide +kernel
theorem d_MD_ring_34 : decode prog_14_method_37_code 34 = .ok (.iload_n 2, 1) := by decide +kernel
theorem d_MD_ring_35 : decode prog_14_method_37_code 35 = .ok (.ishl, 1) := by decide +kernel
theorem d_MD_ring_36 : decode prog_14_method_37_code 36 = .ok (.iconst (-1), 1) := by decide +kernel
theorem d_MD_ring_37 : decode prog_14_method_37_code 37 = .ok (.ixor, 1) := by decide +kernel
theorem d_MD_ring_38 : decode prog_14_method_37_code 38 = .ok (.iand, 1) := by decide +kernel
theorem d_MD_ring_39 : decode prog_14_method_37_code 39 = .ok (.istore_n 3, 1) := by decide +kernel
theorem d_MD_ring_40 : decode prog_14_method_37_code 40 = .ok (.iconst 0, 1) := by decide +kernel
theorem d_MD_ring_41 : decode prog_14_method_37_code 41 = .ok (.istore 4, 2) := by decide +kernel
theorem d_MD_ring_43 : decode prog_14_method_37_code 43 = .ok (.iload 4, 2) := by decide +kernel
theorem d_MD_ring_45 : decode prog_14_method_37_code 45 = .ok (.aload_n 0, 1) := by decide +kernel
theorem d_MD_ring_46 : decode prog_14_method_37_code 46 = .ok (.getfield 7, 3) := by decide +kernel
theorem d_MD_ring_49 : decode prog_14_method_37_code 49 = .ok (.if_icmp .ge 128, 3) := by decide +kernel
theorem d_MD_ring_52 : decode prog_14_method_37_code 52 = .ok (.iload 4, 2) := by decide +kernel
theorem d_MD_ring_54 : decode prog_14_method_37_code 54 = .ok (.iconst 1, 1) := by decide +kernel
theorem d_MD_ring_55 : decode prog_14_method_37_code 55 = .ok (.iadd, 1) := by decide +kernel
theorem d_MD_ring_56 : decode prog_14_method_37_code 56 = .ok (.istore 5, 2) := by decide +kernel
theorem d_MD_ring_58 : decode prog_14_method_37_code 58 = .ok (.iload 5, 2) := by decide +kernel
theorem d_MD_ring_60 : decode prog_14_method_37_code 60 = .ok (.aload_n 0, 1) := by decide +kernel
theorem d_MD_ring_61 : decode prog_14_method_37_code 61 = .ok (.getfield 7, 3) := by decide +kernel
theorem d_MD_ring_64 : decode prog_14_method_37_code 64 = .ok (.if_icmp .ge 107, 3) := by decide +kernel
theorem d_MD_ring_67 : decode prog_14_method_37_code 67 = .ok (.aload_n 0, 1) := by decide +kernel
theorem d_MD_ring_68 : decode prog_14_method_37_code 68 = .ok (.getfield 33, 3) := by decide +kernel
theorem d_MD_ring_71 : decode prog_14_method_37_code 71 = .ok (.iload_n 2, 1) := by decide +kernel
theorem d_MD_ring_72 : decode prog_14_method_37_code 72 = .ok (.iaload, 1) := by decide +kernel
theorem d_MD_ring_73 : decode prog_14_method_37_code 73 = .ok (.iload 4, 2) := by decide +kernel
theorem d_MD_ring_75 : decode prog_14_method_37_code 75 = .ok (.ishr, 1) := by decide +kernel
theorem d_MD_ring_76 : decode prog_14_method_37_code 76 = .ok (.iconst 1, 1) := by decide +kernel
theorem d_MD_ring_77 : decode prog_14_method_37_code 77 = .ok (.iand, 1) := by decide +kernel
theorem d_MD_ring_78 : decode prog_14_method_37_code 78 = .ok (.iconst 1, 1) := by decide +kernel
theorem d_MD_ring_79 : decode prog_14_method_37_code 79 = .ok (.if_icmp .ne 37, 3) := by decide +kernel
theorem d_MD_ring_82 : decode prog_14_method_37_code 82 = .ok (.aload_n 0, 1) := by decide +kernel
theorem d_MD_ring_83 : decode prog_14_method_37_code 83 = .ok (.getfield 33, 3) := by decide +kernel
theorem d_MD_ring_86 : decode prog_14_method_37_code 86 = .ok (.iload_n 2, 1) := by decide +kernel
theorem d_MD_ring_87 : decode prog_14_method_37_code 87 = .ok (.iaload, 1) := by decide +kernel
theorem d_MD_ring_88 : decode prog_14_method_37_code 88 = .ok (.iload 5, 2) := by decide +kernel
theorem d_MD_ring_90 : decode prog_14_method_37_code 90 = .ok (.ishr, 1) := by decide +kernel
theorem d_MD_ring_91 : decode prog_14_method_37_code 91 = .ok (.iconst 1, 1) := by decide +kernel
theorem d_MD_ring_92 : decode prog_14_method_37_code 92 = .ok (.iand, 1) := by decide +kernel
theorem d_MD_ring_93 : decode prog_14_method_37_code 93 = .ok (.iconst 1, 1) := by decide +kernel
theorem d_MD_ring_94 : decode prog_14_method_37_code 94 = .ok (.if_icmp .ne 22, 3) := by decide +kernel
theorem d_MD_ring_97 : decode prog_14_method_37_code 97 = .ok (.aload_n 0, 1) := by decide +kernel
theorem d_MD_ring_98 : decode prog_14_method_37_code 98 = .ok (.getfield 33, 3) := by decide +kernel
theorem d_MD_ring_101 : decode prog_14_method_37_code 101 = .ok (.iload 4, 2) := by decide +kernel
theorem d_MD_ring_103 : decode prog_14_method_37_code 103 = .ok (.iaload, 1) := by decide +kernel
theorem d_MD_ring_104 : decode prog_14_method_37_code 104 = .ok (.iload 5, 2) := by decide +kernel
theorem d_MD_ring_106 : decode prog_14_method_37_code 106 = .ok (.ishr, 1) := by decide +kernel
theorem d_MD_ring_107 : decode prog_14_method_37_code 107 = .ok (.iconst 1, 1) := by decide +kernel
theorem d_MD_ring_108 : decode prog_14_method_37_code 108 = .ok (.iand, 1) := by decide +kernel
theorem d_MD_ring_109 : decode prog_14_method_37_code 109 = .ok (.ifCond .ne 7, 3) := by decide +kernel
theorem d_MD_ring_112 : decode prog_14_method_37_code 112 = .ok (.iconst 1, 1) := by decide +kernel
theorem d_MD_ring_113 : decode prog_14_method_37_code 113 = .ok (.goto 4, 3) := by decide +kernel
theorem d_MD_ring_116 : decode prog_14_method_37_code 116 = .ok (.iconst 0, 1) := by decide +kernel
theorem d_MD_ring_117 : decode prog_14_method_37_code 117 = .ok (.istore 6, 2) := by decide +kernel
theorem d_MD_ring_119 : decode prog_14_method_37_code 119 = .ok (.iload 6, 2) := by decide +kernel
theorem d_MD_ring_121 : decode prog_14_method_37_code 121 = .ok (.ifCond .eq 15, 3) := by decide +kernel
theorem d_MD_ring_124 : decode prog_14_method_37_code 124 = .ok (.aload_n 0, 1) := by decide +kernel
theorem d_MD_ring_125 : decode prog_14_method_37_code 125 = .ok (.iload 4, 2) := by decide +kernel
theorem d_MD_ring_127 : decode prog_14_method_37_code 127 = .ok (.iload 5, 2) := by decide +kernel
theorem d_MD_ring_129 : decode prog_14_method_37_code 129 = .ok (.iload_n 3, 1) := by decide +kernel
theorem d_MD_ring_130 : decode prog_14_method_37_code 130 = .ok (.invokevirtual 157, 3) := by decide +kernel
theorem d_MD_ring_133 : decode prog_14_method_37_code 133 = .ok (.goto 4, 3) := by decide +kernel
theorem d_MD_ring_136 : decode prog_14_method_37_code 136 = .ok (.iconst 0, 1) := by decide +kernel
theorem d_MD_ring_137 : decode prog_14_method_37_code 137 = .ok (.istore 7, 2) := by decide +kernel
theorem d_MD_ring_139 : decode prog_14_method_37_code 139 = .ok (.iload 7, 2) := by decide +kernel
theorem d_MD_ring_141 : decode prog_14_method_37_code 141 = .ok (.ifCond .le 22, 3) := by decide +kernel
theorem d_MD_ring_144 : decode prog_14_method_37_code 144 = .ok (.iload_n 1, 1) := by decide +kernel
theorem d_MD_ring_145 : decode prog_14_method_37_code 145 = .ok (.ifCond .eq 11, 3) := by decide +kernel
theorem d_MD_ring_148 : decode prog_14_method_37_code 148 = .ok (.iload 7, 2) := by decide +kernel
theorem d_MD_ring_150 : decode prog_14_method_37_code 150 = .ok (.iconst 2, 1) := by decide +kernel
theorem d_MD_ring_151 : decode prog_14_method_37_code 151 = .ok (.iadd, 1) := by decide +kernel
theorem d_MD_ring_152 : decode prog_14_method_37_code 152 = .ok (.iload_n 1, 1) := by decide +kernel
theorem d_MD_ring_153 : decode prog_14_method_37_code 153 = .ok (.if_icmp .ge 10, 3) := by decide +kernel
theorem d_MD_ring_156 : decode prog_14_method_37_code 156 = .ok (.iload 7, 2) := by decide +kernel
theorem d_MD_ring_158 : decode prog_14_method_37_code 158 = .ok (.iconst 2, 1) := by decide +kernel
theorem d_MD_ring_159 : decode prog_14_method_37_code 159 = .ok (.iadd, 1) := by decide +kernel
theorem d_MD_ring_160 : decode prog_14_method_37_code 160 = .ok (.goto 4, 3) := by decide +kernel
theorem d_MD_ring_163 : decode prog_14_method_37_code 163 = .ok (.iload_n 1, 1) := by decide +kernel
theorem d_MD_ring_164 : decode prog_14_method_37_code 164 = .ok (.istore_n 1, 1) := by decide +kernel
theorem d_MD_ring_165 : decode prog_14_method_37_code 165 = .ok (.iinc 5 1, 3) := by decide +kernel
theorem d_MD_ring_168 : decode prog_14_method_37_code 168 = .ok (.goto (-110), 3) := by decide +kernel
theorem d_MD_ring_171 : decode prog_14_method_37_code 171 = .ok (.iinc 4 1, 3) := by decide +kernel
theorem d_MD_ring_174 : decode prog_14_method_37_code 174 = .ok (.goto (-131), 3) := by decide +kernel
theorem d_MD_ring_177 : decode prog_14_method_37_code 177 = .ok (.iinc 2 1, 3) := by decide +kernel
theorem d_MD_ring_180 : decode prog_14_method_37_code 180 = .ok (.goto (-172), 3) := by decide +kernel
theorem d_MD_ring_183 : decode prog_14_method_37_code 183 = .ok (.iload_n 1, 1) := by decide +kernel
theorem d_MD_ring_184 : decode prog_14_method_37_code 184 = .ok (.ireturn, 1) := by decide +kernel
def MD_ring_137 (h0 : Nat) (v1 : Int32) (v2 : Int32) (v3 : Int32) (v4 : Int32) (v5 : Int32) (s0 : Int32) (I : jM) (K : Int32 → jM → Prop) (X8 : Int32 × Int32 → Prop) (X43 : Int32 × Int32 → Prop) (X58 : Int32 × Int32 → Prop) : Prop :=
  ((s0 ≤ 0 → X58 (v1, (v5 + 1))) ∧ (¬ s0 ≤ 0 → ((v1 = 0 → (∀ v1_1 : Int32, v1_1 = (s0 + (2 : Int32)) → X58 (v1_1, (v5 + 1)))) ∧ (¬ v1 = 0 → ((v1 ≤ (s0 + (2 : Int32)) → X58 (v1, (v5 + 1))) ∧ (¬ v1 ≤ (s0 + (2 : Int32)) → (∀ v1_2 : Int32, v1_2 = (s0 + (2 : Int32)) → X58 (v1_2, (v5 + 1)))))))))
set_option maxRecDepth 100000 in
set_option maxHeartbeats 4000000 in
theorem k_MD_ring_137 {Z : jZ} {E : jE} (C : jC Z E prog_14_method_37_code 8 "OutOrderModel" 1 28) (hr : (jZh Z).sig.returnType = (some .int)) (hE : E.2.2.2 = jLM)  (h0 : Nat) (v1 : Int32) (v2 : Int32) (v3 : Int32) (v4 : Int32) (v5 : Int32) (s0 : Int32) (I : jM) (g_h0 : jOB E 11 h0) {K : Int32 → jM → Prop} {X8 : Int32 × Int32 → Prop} {X43 : Int32 × Int32 → Prop} {X58 : Int32 × Int32 → Prop} (hX8 : ∀ s : Int32 × Int32, X8 s → jJ Z E 8 (jQi Z E K) 8 [(0, .ref (E.2.2.1 h0)), (1, .int s.1), (2, .int s.2)] [] I) (hX43 : ∀ s : Int32 × Int32, X43 s → jJ Z E 8 (jQi Z E K) 43 [(0, .ref (E.2.2.1 h0)), (1, .int s.1), (2, .int v2), (3, .int v3), (4, .int s.2)] [] I) (hX58 : ∀ s : Int32 × Int32, X58 s → jJ Z E 8 (jQi Z E K) 58 [(0, .ref (E.2.2.1 h0)), (1, .int s.1), (2, .int v2), (3, .int v3), (4, .int v4), (5, .int s.2)] [] I) (h : MD_ring_137 h0 v1 v2 v3 v4 v5 s0 I K X8 X43 X58) : jJ Z E 8 (jQi Z E K) 137 [(0, .ref (E.2.2.1 h0)), (1, .int v1), (2, .int v2), (3, .int v3), (4, .int v4), (5, .int v5)] [.int s0] I := by
  unfold MD_ring_137 at h
  refine j_istore C d_MD_ring_137 (by decide) (lv' := [(7, .int s0), (0, .ref (E.2.2.1 h0)), (1, .int v1), (2, .int v2), (3, .int v3), (4, .int v4), (5, .int v5)]) rfl ?_
  refine j_iload C d_MD_ring_139 0 rfl ?_
  refine j_if_le C d_MD_ring_141 (tgt := 163) (by decide) (fun c141 => ?_) (fun c141 => ?_)
  · have h := h.1 c141
    refine j_iload_n C d_MD_ring_163 rfl 2 rfl ?_
    refine j_istore_n C d_MD_ring_164 rfl (by decide) (lv' := [(1, .int v1), (7, .int s0), (0, .ref (E.2.2.1 h0)), (2, .int v2), (3, .int v3), (4, .int v4), (5, .int v5)]) rfl ?_
    refine j_iinc C d_MD_ring_165 6 rfl (v := (v5 + 1)) rfl (by decide) (lv' := [(5, .int (v5 + 1)), (1, .int v1), (7, .int s0), (0, .ref (E.2.2.1 h0)), (2, .int v2), (3, .int v3), (4, .int v4)]) rfl ?_
    refine j_goto C d_MD_ring_168 (tgt := 58) (by decide) ?_
    refine j_lv [3, 1, 4, 5, 6, 0] rfl ?_
    exact hX58 (v1, (v5 + 1)) h
  · have h := h.2 c141
    refine j_iload_n C d_MD_ring_144 rfl 2 rfl ?_
    refine j_if_eq C d_MD_ring_145 (tgt := 156) (by decide) (fun c145 => ?_) (fun c145 => ?_)
    · have h := h.1 c145
      refine j_iload C d_MD_ring_156 0 rfl ?_
      refine j_iconst C d_MD_ring_158 ic_2 ?_
      refine j_iadd C d_MD_ring_159 ?_
      refine j_goto C d_MD_ring_160 (tgt := 164) (by decide) ?_
      refine j_topi (fun v1_1 ev1_1 => ?_)
      have h := h v1_1 ev1_1
      refine j_istore_n C d_MD_ring_164 rfl (by decide) (lv' := [(1, .int v1_1), (7, .int s0), (0, .ref (E.2.2.1 h0)), (2, .int v2), (3, .int v3), (4, .int v4), (5, .int v5)]) rfl ?_
      refine j_iinc C d_MD_ring_165 6 rfl (v := (v5 + 1)) rfl (by decide) (lv' := [(5, .int (v5 + 1)), (1, .int v1_1), (7, .int s0), (0, .ref (E.2.2.1 h0)), (2, .int v2), (3, .int v3), (4, .int v4)]) rfl ?_
      refine j_goto C d_MD_ring_168 (tgt := 58) (by decide) ?_
      refine j_lv [3, 1, 4, 5, 6, 0] rfl ?_
      exact hX58 (v1_1, (v5 + 1)) h
    · have h := h.2 c145
      refine j_iload C d_MD_ring_148 0 rfl ?_
      refine j_iconst C d_MD_ring_150 ic_2 ?_
      refine j_iadd C d_MD_ring_151 ?_
      refine j_iload_n C d_MD_ring_152 rfl 2 rfl ?_
      refine j_icmp_ge C d_MD_ring_153 (tgt := 163) (by decide) (fun c153 => ?_) (fun c153 => ?_)
      · have h := h.1 c153
        refine j_iload_n C d_MD_ring_163 rfl 2 rfl ?_
        refine j_istore_n C d_MD_ring_164 rfl (by decide) (lv' := [(1, .int v1), (7, .int s0), (0, .ref (E.2.2.1 h0)), (2, .int v2), (3, .int v3), (4, .int v4), (5, .int v5)]) rfl ?_
        refine j_iinc C d_MD_ring_165 6 rfl (v := (v5 + 1)) rfl (by decide) (lv' := [(5, .int (v5 + 1)), (1, .int v1), (7, .int s0), (0, .ref (E.2.2.1 h0)), (2, .int v2), (3, .int v3), (4, .int v4)]) rfl ?_
        refine j_goto C d_MD_ring_168 (tgt := 58) (by decide) ?_
        refine j_lv [3, 1, 4, 5, 6, 0] rfl ?_
        exact hX58 (v1, (v5 + 1)) h
      · have h := h.2 c153
        refine j_iload C d_MD_ring_156 0 rfl ?_
        refine j_iconst C d_MD_ring_158 ic_2 ?_
        refine j_iadd C d_MD_ring_159 ?_
        refine j_goto C d_MD_ring_160 (tgt := 164) (by decide) ?_
        refine j_topi (fun v1_2 ev1_2 => ?_)
        have h := h v1_2 ev1_2
        refine j_istore_n C d_MD_ring_164 rfl (by decide) (lv' := [(1, .int v1_2), (7, .int s0), (0, .ref (E.2.2.1 h0)), (2, .int v2), (3, .int v3), (4, .int v4), (5, .int v5)]) rfl ?_
        refine j_iinc C d_MD_ring_165 6 rfl (v := (v5 + 1)) rfl (by decide) (lv' := [(5, .int (v5 + 1)), (1, .int v1_2), (7, .int s0), (0, .ref (E.2.2.1 h0)), (2, .int v2), (3, .int v3), (4, .int v4)]) rfl ?_
        refine j_goto C d_MD_ring_168 (tgt := 58) (by decide) ?_
        refine j_lv [3, 1, 4, 5, 6, 0] rfl ?_
        exact hX58 (v1_2, (v5 + 1)) h
def MD_ring_117 (h0 : Nat) (v1 : Int32) (v2 : Int32) (v3 : Int32) (v4 : Int32) (v5 : Int32) (s0 : Int32) (I : jM) (K : Int32 → jM → Prop) (X8 : Int32 × Int32 → Prop) (X43 : Int32 × Int32 → Prop) (X58 : Int32 × Int32 → Prop) : Prop :=
  ((s0 = 0 → MD_ring_137 h0 v1 v2 v3 v4 v5 (0 : Int32) I K X8 X43 X58) ∧ (¬ s0 = 0 → MD_steps h0 v4 v5 v3 I (fun r_1 => MD_ring_137 h0 v1 v2 v3 v4 v5 r_1 I K X8 X43 X58)))
set_option maxRecDepth 100000 in
set_option maxHeartbeats 4000000 in
theorem k_MD_ring_117 {Z : jZ} {E : jE} (C : jC Z E prog_14_method_37_code 8 "OutOrderModel" 1 28) (hr : (jZh Z).sig.returnType = (some .int)) (hE : E.2.2.2 = jLM)  (h0 : Nat) (v1 : Int32) (v2 : Int32) (v3 : Int32) (v4 : Int32) (v5 : Int32) (s0 : Int32) (I : jM) (g_h0 : jOB E 11 h0) {K : Int32 → jM → Prop} {X8 : Int32 × Int32 → Prop} {X43 : Int32 × Int32 → Prop} {X58 : Int32 × Int32 → Prop} (hX8 : ∀ s : Int32 × Int32, X8 s → jJ Z E 8 (jQi Z E K) 8 [(0, .ref (E.2.2.1 h0)), (1, .int s.1), (2, .int s.2)] [] I) (hX43 : ∀ s : Int32 × Int32, X43 s → jJ Z E 8 (jQi Z E K) 43 [(0, .ref (E.2.2.1 h0)), (1, .int s.1), (2, .int v2), (3, .int v3), (4, .int s.2)] [] I) (hX58 : ∀ s : Int32 × Int32, X58 s → jJ Z E 8 (jQi Z E K) 58 [(0, .ref (E.2.2.1 h0)), (1, .int s.1), (2, .int v2), (3, .int v3), (4, .int v4), (5, .int s.2)] [] I) (h : MD_ring_117 h0 v1 v2 v3 v4 v5 s0 I K X8 X43 X58) : jJ Z E 8 (jQi Z E K) 117 [(0, .ref (E.2.2.1 h0)), (1, .int v1), (2, .int v2), (3, .int v3), (4, .int v4), (5, .int v5)] [.int s0] I := by
  unfold MD_ring_117 at h
  refine j_istore C d_MD_ring_117 (by decide) (lv' := [(6, .int s0), (0, .ref (E.2.2.1 h0)), (1, .int v1), (2, .int v2), (3, .int v3), (4, .int v4), (5, .int v5)]) rfl ?_
  refine j_iload C d_MD_ring_119 0 rfl ?_
  refine j_if_eq C d_MD_ring_121 (tgt := 136) (by decide) (fun c121 => ?_) (fun c121 => ?_)
  · have h := h.1 c121
    refine j_iconst C d_MD_ring_136 ic_0 ?_
    refine j_lv [1, 2, 3, 4, 5, 6] rfl ?_
    exact k_MD_ring_137 C hr hE h0 v1 v2 v3 v4 v5 (0 : Int32) I g_h0 hX8 hX43 hX58 h
  · have h := h.2 c121
    refine j_aload_n C d_MD_ring_124 rfl 1 rfl ?_
    refine j_iload C d_MD_ring_125 5 rfl ?_
    refine j_iload C d_MD_ring_127 6 rfl ?_
    refine j_iload_n C d_MD_ring_129 rfl 4 rfl ?_
    refine j_callVi (As := [.int v4, .int v5, .int v3]) C jcl_MD cw_MD_157 w_946 ws_40 g_h0 rfl rfl (by decide) (by decide) (Nat.le_of_ble_eq_true rfl) d_MD_ring_130 (s_MD_steps C.ok hE g_h0 h) (fun r_1 I2 h => ?_)
    obtain ⟨rfl, h⟩ := h
    refine j_goto C d_MD_ring_133 (tgt := 137) (by decide) ?_
    refine j_lv [1, 2, 3, 4, 5, 6] rfl ?_
    exact k_MD_ring_137 C hr hE h0 v1 v2 v3 v4 v5 r_1 I g_h0 hX8 hX43 hX58 h
def MD_ring_58b (h0 : Nat) (v1 : Int32) (v2 : Int32) (v3 : Int32) (v4 : Int32) (v5 : Int32) (I : jM) (K : Int32 → jM → Prop) (X8 : Int32 × Int32 → Prop) (X43 : Int32 × Int32 → Prop) (X58 : Int32 × Int32 → Prop) : Prop :=
  (((I h0 0) ≤ v5 → X43 (v1, (v4 + 1))) ∧ (¬ (I h0 0) ≤ v5 → (vp_in v2 24 ∧ ((¬ (((I (jr h0 7) v2.toNatClampNeg) >>> (v4 &&& 31)) &&& (1 : Int32)) = (1 : Int32) → MD_ring_117 h0 v1 v2 v3 v4 v5 (0 : Int32) I K X8 X43 X58) ∧ ((((I (jr h0 7) v2.toNatClampNeg) >>> (v4 &&& 31)) &&& (1 : Int32)) = (1 : Int32) → (vp_in v2 24 ∧ ((¬ (((I (jr h0 7) v2.toNatClampNeg) >>> (v5 &&& 31)) &&& (1 : Int32)) = (1 : Int32) → MD_ring_117 h0 v1 v2 v3 v4 v5 (0 : Int32) I K X8 X43 X58) ∧ ((((I (jr h0 7) v2.toNatClampNeg) >>> (v5 &&& 31)) &&& (1 : Int32)) = (1 : Int32) → (vp_in v4 24 ∧ ((¬ (((I (jr h0 7) v4.toNatClampNeg) >>> (v5 &&& 31)) &&& (1 : Int32)) = 0 → MD_ring_117 h0 v1 v2 v3 v4 v5 (0 : Int32) I K X8 X43 X58) ∧ ((((I (jr h0 7) v4.toNatClampNeg) >>> (v5 &&& 31)) &&& (1 : Int32)) = 0 → MD_ring_117 h0 v1 v2 v3 v4 v5 (1 : Int32) I K X8 X43 X58)))))))))))
def MD_ring_58 (h0 : Nat) (v1 : Int32) (v2 : Int32) (v3 : Int32) (v4 : Int32) (v5 : Int32) (I : jM) (K : Int32 → jM → Prop) (X8 : Int32 × Int32 → Prop) (X43 : Int32 × Int32 → Prop) : Prop :=
  lp (fun (X58 : Int32 × Int32 → Prop) (s : Int32 × Int32) => MD_ring_58b h0 s.1 v2 v3 v4 s.2 I K X8 X43 X58) (v1, v5)
set_option maxRecDepth 100000 in
set_option maxHeartbeats 4000000 in
theorem kb_MD_ring_58 {Z : jZ} {E : jE} (C : jC Z E prog_14_method_37_code 8 "OutOrderModel" 1 28) (hr : (jZh Z).sig.returnType = (some .int)) (hE : E.2.2.2 = jLM)  (h0 : Nat) (v1 : Int32) (v2 : Int32) (v3 : Int32) (v4 : Int32) (v5 : Int32) (I : jM) (g_h0 : jOB E 11 h0) {K : Int32 → jM → Prop} {X8 : Int32 × Int32 → Prop} {X43 : Int32 × Int32 → Prop} (hX8 : ∀ s : Int32 × Int32, X8 s → jJ Z E 8 (jQi Z E K) 8 [(0, .ref (E.2.2.1 h0)), (1, .int s.1), (2, .int s.2)] [] I) (hX43 : ∀ s : Int32 × Int32, X43 s → jJ Z E 8 (jQi Z E K) 43 [(0, .ref (E.2.2.1 h0)), (1, .int s.1), (2, .int v2), (3, .int v3), (4, .int s.2)] [] I) {X58 : Int32 × Int32 → Prop} (hX58 : ∀ s : Int32 × Int32, X58 s → jJ Z E 8 (jQi Z E K) 58 [(0, .ref (E.2.2.1 h0)), (1, .int s.1), (2, .int v2), (3, .int v3), (4, .int v4), (5, .int s.2)] [] I) (h : MD_ring_58b h0 v1 v2 v3 v4 v5 I K X8 X43 X58) : jJ Z E 8 (jQi Z E K) 58 [(0, .ref (E.2.2.1 h0)), (1, .int v1), (2, .int v2), (3, .int v3), (4, .int v4), (5, .int v5)] [] I := by
  unfold MD_ring_58b at h
  refine j_iload C d_MD_ring_58 5 rfl ?_
  refine j_aload_n C d_MD_ring_60 rfl 0 rfl ?_
  refine fg_MD_7 C g_h0 d_MD_ring_61 ?_
  refine j_icmp_ge C d_MD_ring_64 (tgt := 171) (by decide) (fun c64 => ?_) (fun c64 => ?_)
  · have h := h.1 c64
    refine j_iinc C d_MD_ring_171 4 rfl (v := (v4 + 1)) rfl (by decide) (lv' := [(4, .int (v4 + 1)), (0, .ref (E.2.2.1 h0)), (1, .int v1), (2, .int v2), (3, .int v3), (5, .int v5)]) rfl ?_
    refine j_goto C d_MD_ring_174 (tgt := 43) (by decide) ?_
    refine j_lv [1, 2, 3, 4, 0] rfl ?_
    exact hX43 (v1, (v4 + 1)) h
  · have h := h.2 c64
    refine j_aload_n C d_MD_ring_67 rfl 0 rfl ?_
    refine fg_MD_33 C g_h0 d_MD_ring_68 ?_
    refine j_iload_n C d_MD_ring_71 rfl 2 rfl ?_
    obtain ⟨hi, h⟩ := h
    refine j_iaload C (sh_MD_7 hE g_h0) hi d_MD_ring_72 ?_
    refine j_iload C d_MD_ring_73 4 rfl ?_
    refine j_ishr C d_MD_ring_75 ?_
    refine j_iconst C d_MD_ring_76 ic_1 ?_
    refine j_iand C d_MD_ring_77 ?_
    refine j_iconst C d_MD_ring_78 ic_1 ?_
    refine j_icmp_ne C d_MD_ring_79 (tgt := 116) (by decide) (fun c79 => ?_) (fun c79 => ?_)
    · have h := h.1 c79
      refine j_iconst C d_MD_ring_116 ic_0 ?_
      refine j_lv [0, 1, 2, 3, 4, 5] rfl ?_
      exact k_MD_ring_117 C hr hE h0 v1 v2 v3 v4 v5 (0 : Int32) I g_h0 hX8 hX43 hX58 h
    · have h := h.2 c79
      refine j_aload_n C d_MD_ring_82 rfl 0 rfl ?_
      refine fg_MD_33 C g_h0 d_MD_ring_83 ?_
      refine j_iload_n C d_MD_ring_86 rfl 2 rfl ?_
      obtain ⟨hi, h⟩ := h
      refine j_iaload C (sh_MD_7 hE g_h0) hi d_MD_ring_87 ?_
      refine j_iload C d_MD_ring_88 5 rfl ?_
      refine j_ishr C d_MD_ring_90 ?_
      refine j_iconst C d_MD_ring_91 ic_1 ?_
      refine j_iand C d_MD_ring_92 ?_
      refine j_iconst C d_MD_ring_93 ic_1 ?_
      refine j_icmp_ne C d_MD_ring_94 (tgt := 116) (by decide) (fun c94 => ?_) (fun c94 => ?_)
      · have h := h.1 c94
        refine j_iconst C d_MD_ring_116 ic_0 ?_
        refine j_lv [0, 1, 2, 3, 4, 5] rfl ?_
        exact k_MD_ring_117 C hr hE h0 v1 v2 v3 v4 v5 (0 : Int32) I g_h0 hX8 hX43 hX58 h
      · have h := h.2 c94
        refine j_aload_n C d_MD_ring_97 rfl 0 rfl ?_
        refine fg_MD_33 C g_h0 d_MD_ring_98 ?_
        refine j_iload C d_MD_ring_101 4 rfl ?_
        obtain ⟨hi, h⟩ := h
        refine j_iaload C (sh_MD_7 hE g_h0) hi d_MD_ring_103 ?_
        refine j_iload C d_MD_ring_104 5 rfl ?_
        refine j_ishr C d_MD_ring_106 ?_
        refine j_iconst C d_MD_ring_107 ic_1 ?_
        refine j_iand C d_MD_ring_108 ?_
        refine j_if_ne C d_MD_ring_109 (tgt := 116) (by decide) (fun c109 => ?_) (fun c109 => ?_)
        · have h := h.1 c109
          refine j_iconst C d_MD_ring_116 ic_0 ?_
          refine j_lv [0, 1, 2, 3, 4, 5] rfl ?_
          exact k_MD_ring_117 C hr hE h0 v1 v2 v3 v4 v5 (0 : Int32) I g_h0 hX8 hX43 hX58 h
        · have h := h.2 c109
          refine j_iconst C d_MD_ring_112 ic_1 ?_
          refine j_goto C d_MD_ring_113 (tgt := 117) (by decide) ?_
          refine j_lv [0, 1, 2, 3, 4, 5] rfl ?_
          exact k_MD_ring_117 C hr hE h0 v1 v2 v3 v4 v5 (1 : Int32) I g_h0 hX8 hX43 hX58 h
theorem k_MD_ring_58 {Z : jZ} {E : jE} (C : jC Z E prog_14_method_37_code 8 "OutOrderModel" 1 28) (hr : (jZh Z).sig.returnType = (some .int)) (hE : E.2.2.2 = jLM)  (h0 : Nat) (v1 : Int32) (v2 : Int32) (v3 : Int32) (v4 : Int32) (v5 : Int32) (I : jM) (g_h0 : jOB E 11 h0) {K : Int32 → jM → Prop} {X8 : Int32 × Int32 → Prop} {X43 : Int32 × Int32 → Prop} (hX8 : ∀ s : Int32 × Int32, X8 s → jJ Z E 8 (jQi Z E K) 8 [(0, .ref (E.2.2.1 h0)), (1, .int s.1), (2, .int s.2)] [] I) (hX43 : ∀ s : Int32 × Int32, X43 s → jJ Z E 8 (jQi Z E K) 43 [(0, .ref (E.2.2.1 h0)), (1, .int s.1), (2, .int v2), (3, .int v3), (4, .int s.2)] [] I) (h : MD_ring_58 h0 v1 v2 v3 v4 v5 I K X8 X43) : jJ Z E 8 (jQi Z E K) 58 [(0, .ref (E.2.2.1 h0)), (1, .int v1), (2, .int v2), (3, .int v3), (4, .int v4), (5, .int v5)] [] I := by
  unfold MD_ring_58 at h
  exact h (fun s => jJ Z E 8 (jQi Z E K) 58 [(0, .ref (E.2.2.1 h0)), (1, .int s.1), (2, .int v2), (3, .int v3), (4, .int v4), (5, .int s.2)] [] I) (fun s hs => kb_MD_ring_58 C hr hE h0 s.1 v2 v3 v4 s.2 I g_h0 hX8 hX43 (fun s2 h2 => h2) hs)
def MD_ring_43b (h0 : Nat) (v1 : Int32) (v2 : Int32) (v3 : Int32) (v4 : Int32) (I : jM) (K : Int32 → jM → Prop) (X8 : Int32 × Int32 → Prop) (X43 : Int32 × Int32 → Prop) : Prop :=
  (((I h0 0) ≤ v4 → X8 (v1, (v2 + 1))) ∧ (¬ (I h0 0) ≤ v4 → (∀ v5_1 : Int32, v5_1 = (v4 + (1 : Int32)) → MD_ring_58 h0 v1 v2 v3 v4 v5_1 I K X8 X43)))
def MD_ring_43 (h0 : Nat) (v1 : Int32) (v2 : Int32) (v3 : Int32) (v4 : Int32) (I : jM) (K : Int32 → jM → Prop) (X8 : Int32 × Int32 → Prop) : Prop :=
  lp (fun (X43 : Int32 × Int32 → Prop) (s : Int32 × Int32) => MD_ring_43b h0 s.1 v2 v3 s.2 I K X8 X43) (v1, v4)
set_option maxRecDepth 100000 in
set_option maxHeartbeats 4000000 in
theorem kb_MD_ring_43 {Z : jZ} {E : jE} (C : jC Z E prog_14_method_37_code 8 "OutOrderModel" 1 28) (hr : (jZh Z).sig.returnType = (some .int)) (hE : E.2.2.2 = jLM)  (h0 : Nat) (v1 : Int32) (v2 : Int32) (v3 : Int32) (v4 : Int32) (I : jM) (g_h0 : jOB E 11 h0) {K : Int32 → jM → Prop} {X8 : Int32 × Int32 → Prop} (hX8 : ∀ s : Int32 × Int32, X8 s → jJ Z E 8 (jQi Z E K) 8 [(0, .ref (E.2.2.1 h0)), (1, .int s.1), (2, .int s.2)] [] I) {X43 : Int32 × Int32 → Prop} (hX43 : ∀ s : Int32 × Int32, X43 s → jJ Z E 8 (jQi Z E K) 43 [(0, .ref (E.2.2.1 h0)), (1, .int s.1), (2, .int v2), (3, .int v3), (4, .int s.2)] [] I) (h : MD_ring_43b h0 v1 v2 v3 v4 I K X8 X43) : jJ Z E 8 (jQi Z E K) 43 [(0, .ref (E.2.2.1 h0)), (1, .int v1), (2, .int v2), (3, .int v3), (4, .int v4)] [] I := by
  unfold MD_ring_43b at h
  refine j_iload C d_MD_ring_43 4 rfl ?_
  refine j_aload_n C d_MD_ring_45 rfl 0 rfl ?_
  refine fg_MD_7 C g_h0 d_MD_ring_46 ?_
  refine j_icmp_ge C d_MD_ring_49 (tgt := 177) (by decide) (fun c49 => ?_) (fun c49 => ?_)
  · have h := h.1 c49
    refine j_iinc C d_MD_ring_177 2 rfl (v := (v2 + 1)) rfl (by decide) (lv' := [(2, .int (v2 + 1)), (0, .ref (E.2.2.1 h0)), (1, .int v1), (3, .int v3), (4, .int v4)]) rfl ?_
    refine j_goto C d_MD_ring_180 (tgt := 8) (by decide) ?_
    refine j_lv [1, 2, 0] rfl ?_
    exact hX8 (v1, (v2 + 1)) h
  · have h := h.2 c49
    refine j_iload C d_MD_ring_52 4 rfl ?_
    refine j_iconst C d_MD_ring_54 ic_1 ?_
    refine j_iadd C d_MD_ring_55 ?_
    refine j_topi (fun v5_1 ev5_1 => ?_)
    have h := h v5_1 ev5_1
    refine j_istore C d_MD_ring_56 (by decide) (lv' := [(5, .int v5_1), (0, .ref (E.2.2.1 h0)), (1, .int v1), (2, .int v2), (3, .int v3), (4, .int v4)]) rfl ?_
    refine j_lv [1, 2, 3, 4, 5, 0] rfl ?_
    exact k_MD_ring_58 C hr hE h0 v1 v2 v3 v4 v5_1 I g_h0 hX8 hX43 h
theorem k_MD_ring_43 {Z : jZ} {E : jE} (C : jC Z E prog_14_method_37_code 8 "OutOrderModel" 1 28) (hr : (jZh Z).sig.returnType = (some .int)) (hE : E.2.2.2 = jLM)  (h0 : Nat) (v1 : Int32) (v2 : Int32) (v3 : Int32) (v4 : Int32) (I : jM) (g_h0 : jOB E 11 h0) {K : Int32 → jM → Prop} {X8 : Int32 × Int32 → Prop} (hX8 : ∀ s : Int32 × Int32, X8 s → jJ Z E 8 (jQi Z E K) 8 [(0, .ref (E.2.2.1 h0)), (1, .int s.1), (2, .int s.2)] [] I) (h : MD_ring_43 h0 v1 v2 v3 v4 I K X8) : jJ Z E 8 (jQi Z E K) 43 [(0, .ref (E.2.2.1 h0)), (1, .int v1), (2, .int v2), (3, .int v3), (4, .int v4)] [] I := by
  unfold MD_ring_43 at h
  exact h (fun s => jJ Z E 8 (jQi Z E K) 43 [(0, .ref (E.2.2.1 h0)), (1, .int s.1), (2, .int v2), (3, .int v3), (4, .int s.2)] [] I) (fun s hs => kb_MD_ring_43 C hr hE h0 s.1 v2 v3 s.2 I g_h0 hX8 (fun s2 h2 => h2) hs)
def MD_ring_8b (h0 : Nat) (v1 : Int32) (v2 : Int32) (I : jM) (K : Int32 → jM → Prop) (X8 : Int32 × Int32 → Prop) : Prop :=
  (((I h0 0) ≤ v2 → K v1 I) ∧ (¬ (I h0 0) ≤ v2 → (vp_in v2 24 ∧ (∀ v3_1 : Int32, v3_1 = (((((1 : Int32) <<< ((I h0 0) &&& 31)) - (1 : Int32)) &&& ((I (jr h0 7) v2.toNatClampNeg) ^^^ (-1 : Int32))) &&& (((1 : Int32) <<< (v2 &&& 31)) ^^^ (-1 : Int32))) → MD_ring_43 h0 v1 v2 v3_1 (0 : Int32) I K X8))))
def MD_ring_8 (h0 : Nat) (v1 : Int32) (v2 : Int32) (I : jM) (K : Int32 → jM → Prop) : Prop :=
  lp (fun (X8 : Int32 × Int32 → Prop) (s : Int32 × Int32) => MD_ring_8b h0 s.1 s.2 I K X8) (v1, v2)
set_option maxRecDepth 100000 in
set_option maxHeartbeats 4000000 in
theorem kb_MD_ring_8 {Z : jZ} {E : jE} (C : jC Z E prog_14_method_37_code 8 "OutOrderModel" 1 28) (hr : (jZh Z).sig.returnType = (some .int)) (hE : E.2.2.2 = jLM)  (h0 : Nat) (v1 : Int32) (v2 : Int32) (I : jM) (g_h0 : jOB E 11 h0) {K : Int32 → jM → Prop} {X8 : Int32 × Int32 → Prop} (hX8 : ∀ s : Int32 × Int32, X8 s → jJ Z E 8 (jQi Z E K) 8 [(0, .ref (E.2.2.1 h0)), (1, .int s.1), (2, .int s.2)] [] I) (h : MD_ring_8b h0 v1 v2 I K X8) : jJ Z E 8 (jQi Z E K) 8 [(0, .ref (E.2.2.1 h0)), (1, .int v1), (2, .int v2)] [] I := by
  unfold MD_ring_8b at h
  refine j_iload_n C d_MD_ring_8 rfl 2 rfl ?_
  refine j_aload_n C d_MD_ring_9 rfl 0 rfl ?_
  refine fg_MD_7 C g_h0 d_MD_ring_10 ?_
  refine j_icmp_ge C d_MD_ring_13 (tgt := 183) (by decide) (fun c13 => ?_) (fun c13 => ?_)
  · have h := h.1 c13
    refine j_iload_n C d_MD_ring_183 rfl 1 rfl ?_
    exact j_iret C hr d_MD_ring_184 h
  · have h := h.2 c13
    refine j_iconst C d_MD_ring_16 ic_1 ?_
    refine j_aload_n C d_MD_ring_17 rfl 0 rfl ?_
    refine fg_MD_7 C g_h0 d_MD_ring_18 ?_
    refine j_ishl C d_MD_ring_21 ?_
    refine j_iconst C d_MD_ring_22 ic_1 ?_
    refine j_isub C d_MD_ring_23 ?_
    refine j_aload_n C d_MD_ring_24 rfl 0 rfl ?_
    refine fg_MD_33 C g_h0 d_MD_ring_25 ?_
    refine j_iload_n C d_MD_ring_28 rfl 2 rfl ?_
    obtain ⟨hi, h⟩ := h
    refine j_iaload C (sh_MD_7 hE g_h0) hi d_MD_ring_29 ?_
    refine j_iconst C d_MD_ring_30 ic_m1 ?_
    refine j_ixor C d_MD_ring_31 ?_
    refine j_iand C d_MD_ring_32 ?_
    refine j_iconst C d_MD_ring_33 ic_1 ?_
    refine j_iload_n C d_MD_ring_34 rfl 2 rfl ?_
    refine j_ishl C d_MD_ring_35 ?_
    refine j_iconst C d_MD_ring_36 ic_m1 ?_
    refine j_ixor C d_MD_ring_37 ?_
    refine j_iand C d_MD_ring_38 ?_
    refine j_topi (fun v3_1 ev3_1 => ?_)
    have h := h v3_1 ev3_1
    refine j_istore_n C d_MD_ring_39 rfl (by decide) (lv' := [(3, .int v3_1), (0, .ref (E.2.2.1 h0)), (1, .int v1), (2, .int v2)]) rfl ?_
    refine j_iconst C d_MD_ring_40 ic_0 ?_
    refine j_istore C d_MD_ring_41 (by decide) (lv' := [(4, .int (0 : Int32)), (3, .int v3_1), (0, .ref (E.2.2.1 h0)), (1, .int v1), (2, .int v2)]) rfl ?_
    refine j_lv [2, 3, 4, 1, 0] rfl ?_
    exact k_MD_ring_43 C hr hE h0 v1 v2 v3_1 (0 : Int32) I g_h0 hX8 h
theorem k_MD_ring_8 {Z : jZ} {E : jE} (C : jC Z E prog_14_method_37_code 8 "OutOrderModel" 1 28) (hr : (jZh Z).sig.returnType = (some .int)) (hE : E.2.2.2 = jLM)  (h0 : Nat) (v1 : Int32) (v2 : Int32) (I : jM) (g_h0 : jOB E 11 h0) {K : Int32 → jM → Prop} (h : MD_ring_8 h0 v1 v2 I K) : jJ Z E 8 (jQi Z E K) 8 [(0, .ref (E.2.2.1 h0)), (1, .int v1), (2, .int v2)] [] I := by
  unfold MD_ring_8 at h
  exact h (fun s => jJ Z E 8 (jQi Z E K) 8 [(0, .ref (E.2.2.1 h0)), (1, .int s.1), (2, .int s.2)] [] I) (fun s hs => kb_MD_ring_8 C hr hE h0 s.1 s.2 I g_h0 (fun s2 h2 => h2) hs)
/-- OutOrderModel.ring()I -/
def MD_ring (h0 : Nat) (I : jM) (K : Int32 → jM → Prop) : Prop :=
  MD_beginNet h0 I (fun I_2 => MD_ring_8 h0 (0 : Int32) (0 : Int32) I_2 K)
set_option maxRecDepth 100000 in
set_option maxHeartbeats 4000000 in
theorem s_MD_ring {l : Launch} {E : jE} (ok : jOK E) (hE : E.2.2.2 = jLM) {h0 : Nat} (g_h0 : jOB E 11 h0) {I : jM} {K : Int32 → jM → Prop} (h : MD_ring h0 I K) : jSi l E ⟨"OutOrderModel", "ring", "()I"⟩ prog_14_method_37_code 8 (some .int) 1 28 [.ref (E.2.2.1 h0)] I K := by
  refine jS_ofF (own := "OutOrderModel") (by decide +kernel) rfl ok (Nat.le_of_ble_eq_true rfl) (fun Z _ C hr => ?_)
  show jJ Z E 8 (jQi Z E K) 0 [(0, .ref (E.2.2.1 h0))] [] I
  unfold MD_ring at h
  refine j_aload_n C d_MD_ring_0 rfl 0 rfl ?_
  refine j_callVv (As := []) C jcl_MD cw_MD_100 w_821 ws_25 g_h0 rfl rfl (by decide) (by decide) (Nat.le_of_ble_eq_true rfl) d_MD_ring_1 (s_MD_beginNet C.ok hE g_h0 h) (fun I_2 h => ?_)
  refine j_iconst C d_MD_ring_4 ic_0 ?_
  refine j_istore_n C d_MD_ring_5 rfl (by decide) (lv' := [(1, .int (0 : Int32)), (0, .ref (E.2.2.1 h0))]) rfl ?_
  refine j_iconst C d_MD_ring_6 ic_0 ?_
  refine j_istore_n C d_MD_ring_7 rfl (by decide) (lv' := [(2, .int (0 : Int32)), (1, .int (0 : Int32)), (0, .ref (E.2.2.1 h0))]) rfl ?_
  refine j_lv [2, 1, 0] rfl ?_
  exact k_MD_ring_8 C hr hE h0 (0 : Int32) (0 : Int32) I_2 g_h0 h
theorem d_MD_round_0 : decode prog_14_method_63_code 0 = .ok (.aload_n 0, 1) := by decide +kernel
theorem d_MD_round_1 : decode prog_14_method_63_code 1 = .ok (.iload_n 2, 1) := by decide +kernel
theorem d_MD_round_2 : decode prog_14_method_63_code 2 = .ok (.invokevirtual 90, 3) := by decide +kernel
theorem d_MD_round_5 : decode prog_14_method_63_code 5 = .ok (.ifCond .ne 9, 3) := by decide +kernel
theorem d_MD_round_8 : decode prog_14_method_63_code 8 = .ok (.aload_n 0, 1) := by decide +kernel
theorem d_MD_round_9 : decode prog_14_method_63_code 9 = .ok (.iconst (-1), 1) := by decide +kernel
theorem d_MD_round_10 : decode prog_14_method_63_code 10 = .ok (.invokevirtual 79, 3) := by decide +kernel
theorem d_MD_round_13 : decode prog_14_method_63_code 13 = .ok (.ireturn, 1) := by decide +kernel
theorem d_MD_round_14 : decode prog_14_method_63_code 14 = .ok (.iload_n 1, 1) := by decide +kernel
theorem d_MD_round_15 : decode prog_14_method_63_code 15 = .ok (.iconst 1, 1) := by decide +kernel
theorem d_MD_round_16 : decode prog_14_method_63_code 16 = .ok (.if_icmp .ge 8, 3) := by decide +kernel
theorem d_MD_round_19 : decode prog_14_method_63_code 19 = .ok (.bipush (-4), 2) := by decide +kernel
theorem d_MD_round_21 : decode prog_14_method_63_code 21 = .ok (.goto 15, 3) := by decide +kernel
theorem d_MD_round_24 : decode prog_14_method_63_code 24 = .ok (.iload_n 1, 1) := by decide +kernel
theorem d_MD_round_25 : decode prog_14_method_63_code 25 = .ok (.bipush 24, 2) := by decide +kernel
theorem d_MD_round_27 : decode prog_14_method_63_code 27 = .ok (.if_icmp .le 8, 3) := by decide +kernel
theorem d_MD_round_30 : decode prog_14_method_63_code 30 = .ok (.bipush (-6), 2) := by decide +kernel
theorem d_MD_round_32 : decode prog_14_method_63_code 32 = .ok (.goto 4, 3) := by decide +kernel
theorem d_MD_round_35 : decode prog_14_method_63_code 35 = .ok (.iconst 0, 1) := by decide +kernel
theorem d_MD_round_36 : decode prog_14_method_63_code 36 = .ok (.istore_n 3, 1) := by decide +kernel
theorem d_MD_round_37 : decode prog_14_method_63_code 37 = .ok (.iload_n 3, 1) := by decide +kernel
theorem d_MD_round_38 : decode prog_14_method_63_code 38 = .ok (.ifCond .ge 9, 3) := by decide +kernel
theorem d_MD_round_41 : decode prog_14_method_63_code 41 = .ok (.aload_n 0, 1) := by decide +kernel
theorem d_MD_round_42 : decode prog_14_method_63_code 42 = .ok (.iload_n 3, 1) := by decide +kernel
theorem d_MD_round_43 : decode prog_14_method_63_code 43 = .ok (.invokevirtual 79, 3) := by decide +kernel
theorem d_MD_round_46 : decode prog_14_method_63_code 46 = .ok (.ireturn, 1) := by decide +kernel
theorem d_MD_round_47 : decode prog_14_method_63_code 47 = .ok (.aload_n 0, 1) := by decide +kernel
theorem d_MD_round_48 : decode prog_14_method_63_code 48 = .ok (.iload_n 1, 1) := by decide +kernel
theorem d_MD_round_49 : decode prog_14_method_63_code 49 = .ok (.invokevirtual 198, 3) := by decide +kernel
theorem d_MD_round_52 : decode prog_14_method_63_code 52 = .ok (.istore 4, 2) := by decide +kernel
theorem d_MD_round_54 : decode prog_14_method_63_code 54 = .ok (.aload_n 0, 1) := by decide +kernel
theorem d_MD_round_55 : decode prog_14_method_63_code 55 = .ok (.getfield 72, 3) := by decide +kernel
theorem d_MD_round_58 : decode prog_14_method_63_code 58 = .ok (.iload_n 2, 1) := by decide +kernel
theorem d_MD_round_59 : decode prog_14_method_63_code 59 = .ok (.iaload, 1) := by decide +kernel
theorem d_MD_round_60 : decode prog_14_method_63_code 60 = .ok (.ireturn, 1) := by decide +kernel
def MD_round_36 (h0 : Nat) (v1 : Int32) (v2 : Int32) (s0 : Int32) (I : jM) (K : Int32 → jM → Prop) : Prop :=
  ((0 ≤ s0 → MD_planFor h0 v1 I (fun r_1 I_2 => (vp_in v2 24 ∧ K (I_2 (jr h0 23) v2.toNatClampNeg) I_2))) ∧ (¬ 0 ≤ s0 → MD_refuse h0 s0 I (fun r_3 I_4 => K r_3 I_4)))
set_option maxRecDepth 100000 in
set_option maxHeartbeats 4000000 in
theorem k_MD_round_36 {Z : jZ} {E : jE} (C : jC Z E prog_14_method_63_code 5 "OutOrderModel" 3 75) (hr : (jZh Z).sig.returnType = (some .int)) (hE : E.2.2.2 = jLM)  (h0 : Nat) (v1 : Int32) (v2 : Int32) (s0 : Int32) (I : jM) (g_h0 : jOB E 11 h0) {K : Int32 → jM → Prop} (h : MD_round_36 h0 v1 v2 s0 I K) : jJ Z E 5 (jQi Z E K) 36 [(0, .ref (E.2.2.1 h0)), (1, .int v1), (2, .int v2)] [.int s0] I := by
  unfold MD_round_36 at h
  refine j_istore_n C d_MD_round_36 rfl (by decide) (lv' := [(3, .int s0), (0, .ref (E.2.2.1 h0)), (1, .int v1), (2, .int v2)]) rfl ?_
  refine j_iload_n C d_MD_round_37 rfl 0 rfl ?_
  refine j_if_ge C d_MD_round_38 (tgt := 47) (by decide) (fun c38 => ?_) (fun c38 => ?_)
  · have h := h.1 c38
    refine j_aload_n C d_MD_round_47 rfl 1 rfl ?_
    refine j_iload_n C d_MD_round_48 rfl 2 rfl ?_
    refine j_callVi (As := [.int v1]) C jcl_MD cw_MD_198 w_1035 ws_50 g_h0 rfl rfl (by decide) (by decide) (Nat.le_of_ble_eq_true rfl) d_MD_round_49 (s_MD_planFor C.ok hE g_h0 h) (fun r_1 I_2 h => ?_)
    refine j_istore C d_MD_round_52 (by decide) (lv' := [(4, .int r_1), (3, .int s0), (0, .ref (E.2.2.1 h0)), (1, .int v1), (2, .int v2)]) rfl ?_
    refine j_aload_n C d_MD_round_54 rfl 2 rfl ?_
    refine fg_MD_72 C g_h0 d_MD_round_55 ?_
    refine j_iload_n C d_MD_round_58 rfl 4 rfl ?_
    obtain ⟨hi, h⟩ := h
    refine j_iaload C (sh_MD_23 hE g_h0) hi d_MD_round_59 ?_
    exact j_iret C hr d_MD_round_60 h
  · have h := h.2 c38
    refine j_aload_n C d_MD_round_41 rfl 1 rfl ?_
    refine j_iload_n C d_MD_round_42 rfl 0 rfl ?_
    refine j_callVi (As := [.int s0]) C jcl_MD cw_MD_79 w_809 ws_23 g_h0 rfl rfl (by decide) (by decide) (Nat.le_of_ble_eq_true rfl) d_MD_round_43 (s_MD_refuse C.ok hE g_h0 h) (fun r_3 I_4 h => ?_)
    exact j_iret C hr d_MD_round_46 h
/-- OutOrderModel.round(II)I -/
def MD_round (h0 : Nat) (v1 : Int32) (v2 : Int32) (I : jM) (K : Int32 → jM → Prop) : Prop :=
  MD_isUnknown h0 v2 I (fun r_1 => ((¬ r_1 = 0 → (((1 : Int32) ≤ v1 → ((v1 ≤ (24 : Int32) → MD_round_36 h0 v1 v2 (0 : Int32) I K) ∧ (¬ v1 ≤ (24 : Int32) → MD_round_36 h0 v1 v2 (-6 : Int32) I K))) ∧ (¬ (1 : Int32) ≤ v1 → MD_round_36 h0 v1 v2 (-4 : Int32) I K))) ∧ (r_1 = 0 → MD_refuse h0 (-1 : Int32) I (fun r_2 I_3 => K r_2 I_3))))
set_option maxRecDepth 100000 in
set_option maxHeartbeats 4000000 in
theorem s_MD_round {l : Launch} {E : jE} (ok : jOK E) (hE : E.2.2.2 = jLM) {h0 : Nat} {v1 : Int32} {v2 : Int32} (g_h0 : jOB E 11 h0) {I : jM} {K : Int32 → jM → Prop} (h : MD_round h0 v1 v2 I K) : jSi l E ⟨"OutOrderModel", "round", "(II)I"⟩ prog_14_method_63_code 5 (some .int) 3 75 [.ref (E.2.2.1 h0), .int v1, .int v2] I K := by
  refine jS_ofF (own := "OutOrderModel") (by decide +kernel) rfl ok (Nat.le_of_ble_eq_true rfl) (fun Z _ C hr => ?_)
  show jJ Z E 5 (jQi Z E K) 0 [(0, .ref (E.2.2.1 h0)), (1, .int v1), (2, .int v2)] [] I
  unfold MD_round at h
  refine j_aload_n C d_MD_round_0 rfl 0 rfl ?_
  refine j_iload_n C d_MD_round_1 rfl 2 rfl ?_
  refine j_callVi (As := [.int v2]) C jcl_MD cw_MD_90 w_829 ws_26 g_h0 rfl rfl (by decide) (by decide) (Nat.le_of_ble_eq_true rfl) d_MD_round_2 (s_MD_isUnknown C.ok g_h0 h) (fun r_1 I2 h => ?_)
  obtain ⟨rfl, h⟩ := h
  refine j_if_ne C d_MD_round_5 (tgt := 14) (by decide) (fun c5 => ?_) (fun c5 => ?_)
  · have h := h.1 c5
    refine j_iload_n C d_MD_round_14 rfl 1 rfl ?_
    refine j_iconst C d_MD_round_15 ic_1 ?_
    refine j_icmp_ge C d_MD_round_16 (tgt := 24) (by decide) (fun c16 => ?_) (fun c16 => ?_)
    · have h := h.1 c16
      refine j_iload_n C d_MD_round_24 rfl 1 rfl ?_
      refine j_bipush C d_MD_round_25 ib_24 ?_
      refine j_icmp_le C d_MD_round_27 (tgt := 35) (by decide) (fun c27 => ?_) (fun c27 => ?_)
      · have h := h.1 c27
        refine j_iconst C d_MD_round_35 ic_0 ?_
        refine j_lv [0, 1, 2] rfl ?_
        exact k_MD_round_36 C hr hE h0 v1 v2 (0 : Int32) I g_h0 h
      · have h := h.2 c27
        refine j_bipush C d_MD_round_30 ib_m6 ?_
        refine j_goto C d_MD_round_32 (tgt := 36) (by decide) ?_
        refine j_lv [0, 1, 2] rfl ?_
        exact k_MD_round_36 C hr hE h0 v1 v2 (-6 : Int32) I g_h0 h
    · have h := h.2 c16
      refine j_bipush C d_MD_round_19 ib_m4 ?_
      refine j_goto C d_MD_round_21 (tgt := 36) (by decide) ?_
      refine j_lv [0, 1, 2] rfl ?_
      exact k_MD_round_36 C hr hE h0 v1 v2 (-4 : Int32) I g_h0 h
  · have h := h.2 c5
    refine j_aload_n C d_MD_round_8 rfl 0 rfl ?_
    refine j_iconst C d_MD_round_9 ic_m1 ?_
    refine j_callVi (As := [.int (-1 : Int32)]) C jcl_MD cw_MD_79 w_809 ws_23 g_h0 rfl rfl (by decide) (by decide) (Nat.le_of_ble_eq_true rfl) d_MD_round_10 (s_MD_refuse C.ok hE g_h0 h) (fun r_2 I_3 h => ?_)
    exact j_iret C hr d_MD_round_13 h
