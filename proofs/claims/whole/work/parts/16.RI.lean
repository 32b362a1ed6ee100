theorem d_RI_joinedWith_0 : decode prog_8_method_4_code 0 = .ok (.iconst 0, 1) := by decide +kernel
theorem d_RI_joinedWith_1 : decode prog_8_method_4_code 1 = .ok (.istore_n 3, 1) := by decide +kernel
theorem d_RI_joinedWith_2 : decode prog_8_method_4_code 2 = .ok (.iconst 0, 1) := by decide +kernel
theorem d_RI_joinedWith_3 : decode prog_8_method_4_code 3 = .ok (.istore 4, 2) := by decide +kernel
theorem d_RI_joinedWith_5 : decode prog_8_method_4_code 5 = .ok (.iload 4, 2) := by decide +kernel
theorem d_RI_joinedWith_7 : decode prog_8_method_4_code 7 = .ok (.iload_n 1, 1) := by decide +kernel
theorem d_RI_joinedWith_8 : decode prog_8_method_4_code 8 = .ok (.if_icmp .ge 26, 3) := by decide +kernel
theorem d_RI_joinedWith_11 : decode prog_8_method_4_code 11 = .ok (.iload_n 0, 1) := by decide +kernel
theorem d_RI_joinedWith_12 : decode prog_8_method_4_code 12 = .ok (.iload 4, 2) := by decide +kernel
theorem d_RI_joinedWith_14 : decode prog_8_method_4_code 14 = .ok (.ishr, 1) := by decide +kernel
theorem d_RI_joinedWith_15 : decode prog_8_method_4_code 15 = .ok (.iconst 1, 1) := by decide +kernel
theorem d_RI_joinedWith_16 : decode prog_8_method_4_code 16 = .ok (.iand, 1) := by decide +kernel
theorem d_RI_joinedWith_17 : decode prog_8_method_4_code 17 = .ok (.iconst 1, 1) := by decide +kernel
theorem d_RI_joinedWith_18 : decode prog_8_method_4_code 18 = .ok (.if_icmp .ne 10, 3) := by decide +kernel
theorem d_RI_joinedWith_21 : decode prog_8_method_4_code 21 = .ok (.iload_n 3, 1) := by decide +kernel
theorem d_RI_joinedWith_22 : decode prog_8_method_4_code 22 = .ok (.aload_n 2, 1) := by decide +kernel
theorem d_RI_joinedWith_23 : decode prog_8_method_4_code 23 = .ok (.iload 4, 2) := by decide +kernel
theorem d_RI_joinedWith_25 : decode prog_8_method_4_code 25 = .ok (.iaload, 1) := by decide +kernel
theorem d_RI_joinedWith_26 : decode prog_8_method_4_code 26 = .ok (.ior, 1) := by decide +kernel
theorem d_RI_joinedWith_27 : decode prog_8_method_4_code 27 = .ok (.istore_n 3, 1) := by decide +kernel
theorem d_RI_joinedWith_28 : decode prog_8_method_4_code 28 = .ok (.iinc 4 1, 3) := by decide +kernel
theorem d_RI_joinedWith_31 : decode prog_8_method_4_code 31 = .ok (.goto (-26), 3) := by decide +kernel
theorem d_RI_joinedWith_34 : decode prog_8_method_4_code 34 = .ok (.iload_n 3, 1) := by decide +kernel
theorem d_RI_joinedWith_35 : decode prog_8_method_4_code 35 = .ok (.ireturn, 1) := by decide +kernel
def RI_joinedWith_5b (v0 : Int32) (v1 : Int32) (h2 : Nat) (v3 : Int32) (v4 : Int32) (I : jM) (K : Int32 → Prop) (X5 : Int32 × Int32 → Prop) : Prop :=
  ((v1 ≤ v4 → K v3) ∧ (¬ v1 ≤ v4 → ((¬ ((v0 >>> (v4 &&& 31)) &&& (1 : Int32)) = (1 : Int32) → X5 (v3, (v4 + 1))) ∧ (((v0 >>> (v4 &&& 31)) &&& (1 : Int32)) = (1 : Int32) → (vp_in v4 (jl h2) ∧ (∀ v3_1 : Int32, v3_1 = (v3 ||| (I h2 v4.toNatClampNeg)) → X5 (v3_1, (v4 + 1))))))))
def RI_joinedWith_5 (v0 : Int32) (v1 : Int32) (h2 : Nat) (v3 : Int32) (v4 : Int32) (I : jM) (K : Int32 → Prop) : Prop :=
  lp (fun (X5 : Int32 × Int32 → Prop) (s : Int32 × Int32) => RI_joinedWith_5b v0 v1 h2 s.1 s.2 I K X5) (v3, v4)
set_option maxRecDepth 100000 in
set_option maxHeartbeats 4000000 in
theorem kb_RI_joinedWith_5 {Z : jZ} {E : jE} (C : jC Z E prog_8_method_4_code 5 "OutOrder$Rings" 0 0) (hr : (jZh Z).sig.returnType = (some .int))  (v0 : Int32) (v1 : Int32) (h2 : Nat) (v3 : Int32) (v4 : Int32) (I : jM) (g_h2 : jAI E (jl h2) h2) {K : Int32 → Prop} {X5 : Int32 × Int32 → Prop} (hX5 : ∀ s : Int32 × Int32, X5 s → jJ Z E 5 (jQi Z E (fun r I2 => I = I2 ∧ K r)) 5 [(0, .int v0), (1, .int v1), (2, .ref (E.2.2.1 h2)), (3, .int s.1), (4, .int s.2)] [] I) (h : RI_joinedWith_5b v0 v1 h2 v3 v4 I K X5) : jJ Z E 5 (jQi Z E (fun r I2 => I = I2 ∧ K r)) 5 [(0, .int v0), (1, .int v1), (2, .ref (E.2.2.1 h2)), (3, .int v3), (4, .int v4)] [] I := by
  unfold RI_joinedWith_5b at h
  refine j_iload C d_RI_joinedWith_5 4 rfl ?_
  refine j_iload_n C d_RI_joinedWith_7 rfl 1 rfl ?_
  refine j_icmp_ge C d_RI_joinedWith_8 (tgt := 34) (by decide) (fun c8 => ?_) (fun c8 => ?_)
  · have h := h.1 c8
    refine j_iload_n C d_RI_joinedWith_34 rfl 3 rfl ?_
    exact j_iret C hr d_RI_joinedWith_35 ⟨rfl, h⟩
  · have h := h.2 c8
    refine j_iload_n C d_RI_joinedWith_11 rfl 0 rfl ?_
    refine j_iload C d_RI_joinedWith_12 4 rfl ?_
    refine j_ishr C d_RI_joinedWith_14 ?_
    refine j_iconst C d_RI_joinedWith_15 ic_1 ?_
    refine j_iand C d_RI_joinedWith_16 ?_
    refine j_iconst C d_RI_joinedWith_17 ic_1 ?_
    refine j_icmp_ne C d_RI_joinedWith_18 (tgt := 28) (by decide) (fun c18 => ?_) (fun c18 => ?_)
    · have h := h.1 c18
      refine j_iinc C d_RI_joinedWith_28 4 rfl (v := (v4 + 1)) rfl (by decide) (lv' := [(4, .int (v4 + 1)), (0, .int v0), (1, .int v1), (2, .ref (E.2.2.1 h2)), (3, .int v3)]) rfl ?_
      refine j_goto C d_RI_joinedWith_31 (tgt := 5) (by decide) ?_
      refine j_lv [1, 2, 3, 4, 0] rfl ?_
      exact hX5 (v3, (v4 + 1)) h
    · have h := h.2 c18
      refine j_iload_n C d_RI_joinedWith_21 rfl 3 rfl ?_
      refine j_aload_n C d_RI_joinedWith_22 rfl 2 rfl ?_
      refine j_iload C d_RI_joinedWith_23 4 rfl ?_
      obtain ⟨hi, h⟩ := h
      refine j_iaload C g_h2 hi d_RI_joinedWith_25 ?_
      refine j_ior C d_RI_joinedWith_26 ?_
      refine j_topi (fun v3_1 ev3_1 => ?_)
      have h := h v3_1 ev3_1
      refine j_istore_n C d_RI_joinedWith_27 rfl (by decide) (lv' := [(3, .int v3_1), (0, .int v0), (1, .int v1), (2, .ref (E.2.2.1 h2)), (4, .int v4)]) rfl ?_
      refine j_iinc C d_RI_joinedWith_28 4 rfl (v := (v4 + 1)) rfl (by decide) (lv' := [(4, .int (v4 + 1)), (3, .int v3_1), (0, .int v0), (1, .int v1), (2, .ref (E.2.2.1 h2))]) rfl ?_
      refine j_goto C d_RI_joinedWith_31 (tgt := 5) (by decide) ?_
      refine j_lv [2, 3, 4, 1, 0] rfl ?_
      exact hX5 (v3_1, (v4 + 1)) h
theorem k_RI_joinedWith_5 {Z : jZ} {E : jE} (C : jC Z E prog_8_method_4_code 5 "OutOrder$Rings" 0 0) (hr : (jZh Z).sig.returnType = (some .int))  (v0 : Int32) (v1 : Int32) (h2 : Nat) (v3 : Int32) (v4 : Int32) (I : jM) (g_h2 : jAI E (jl h2) h2) {K : Int32 → Prop} (h : RI_joinedWith_5 v0 v1 h2 v3 v4 I K) : jJ Z E 5 (jQi Z E (fun r I2 => I = I2 ∧ K r)) 5 [(0, .int v0), (1, .int v1), (2, .ref (E.2.2.1 h2)), (3, .int v3), (4, .int v4)] [] I := by
  unfold RI_joinedWith_5 at h
  exact h (fun s => jJ Z E 5 (jQi Z E (fun r I2 => I = I2 ∧ K r)) 5 [(0, .int v0), (1, .int v1), (2, .ref (E.2.2.1 h2)), (3, .int s.1), (4, .int s.2)] [] I) (fun s hs => kb_RI_joinedWith_5 C hr v0 v1 h2 s.1 s.2 I g_h2 (fun s2 h2 => h2) hs)
/-- OutOrder$Rings.joinedWith(II[I)I -/
def RI_joinedWith (v0 : Int32) (v1 : Int32) (h2 : Nat) (I : jM) (K : Int32 → Prop) : Prop :=
  RI_joinedWith_5 v0 v1 h2 (0 : Int32) (0 : Int32) I K
set_option maxRecDepth 100000 in
set_option maxHeartbeats 4000000 in
theorem s_RI_joinedWith {l : Launch} {E : jE} (ok : jOK E)  {v0 : Int32} {v1 : Int32} {h2 : Nat} (g_h2 : jAI E (jl h2) h2) {I : jM} {K : Int32 → Prop} (h : RI_joinedWith v0 v1 h2 I K) : jSi l E ⟨"OutOrder$Rings", "joinedWith", "(II[I)I"⟩ prog_8_method_4_code 5 (some .int) 0 0 [.int v0, .int v1, .ref (E.2.2.1 h2)] I (fun r I2 => I = I2 ∧ K r) := by
  refine jS_ofF (own := "OutOrder$Rings") (by decide +kernel) rfl ok (Nat.le_of_ble_eq_true rfl) (fun Z _ C hr => ?_)
  show jJ Z E 5 (jQi Z E (fun r I2 => I = I2 ∧ K r)) 0 [(0, .int v0), (1, .int v1), (2, .ref (E.2.2.1 h2))] [] I
  unfold RI_joinedWith at h
  refine j_iconst C d_RI_joinedWith_0 ic_0 ?_
  refine j_istore_n C d_RI_joinedWith_1 rfl (by decide) (lv' := [(3, .int (0 : Int32)), (0, .int v0), (1, .int v1), (2, .ref (E.2.2.1 h2))]) rfl ?_
  refine j_iconst C d_RI_joinedWith_2 ic_0 ?_
  refine j_istore C d_RI_joinedWith_3 (by decide) (lv' := [(4, .int (0 : Int32)), (3, .int (0 : Int32)), (0, .int v0), (1, .int v1), (2, .ref (E.2.2.1 h2))]) rfl ?_
  refine j_lv [2, 3, 4, 1, 0] rfl ?_
  exact k_RI_joinedWith_5 C hr v0 v1 h2 (0 : Int32) (0 : Int32) I g_h2 h
theorem d_RI_along_0 : decode prog_8_method_3_code 0 = .ok (.aload_n 3, 1) := by decide +kernel
theorem d_RI_along_1 : decode prog_8_method_3_code 1 = .ok (.iload_n 0, 1) := by decide +kernel
theorem d_RI_along_2 : decode prog_8_method_3_code 2 = .ok (.iaload, 1) := by decide +kernel
theorem d_RI_along_3 : decode prog_8_method_3_code 3 = .ok (.aload_n 3, 1) := by decide +kernel
theorem d_RI_along_4 : decode prog_8_method_3_code 4 = .ok (.iload_n 1, 1) := by decide +kernel
theorem d_RI_along_5 : decode prog_8_method_3_code 5 = .ok (.iaload, 1) := by decide +kernel
theorem d_RI_along_6 : decode prog_8_method_3_code 6 = .ok (.iconst (-1), 1) := by decide +kernel
theorem d_RI_along_7 : decode prog_8_method_3_code 7 = .ok (.ixor, 1) := by decide +kernel
theorem d_RI_along_8 : decode prog_8_method_3_code 8 = .ok (.iand, 1) := by decide +kernel
theorem d_RI_along_9 : decode prog_8_method_3_code 9 = .ok (.iconst 1, 1) := by decide +kernel
theorem d_RI_along_10 : decode prog_8_method_3_code 10 = .ok (.iload_n 1, 1) := by decide +kernel
theorem d_RI_along_11 : decode prog_8_method_3_code 11 = .ok (.ishl, 1) := by decide +kernel
theorem d_RI_along_12 : decode prog_8_method_3_code 12 = .ok (.iconst (-1), 1) := by decide +kernel
theorem d_RI_along_13 : decode prog_8_method_3_code 13 = .ok (.ixor, 1) := by decide +kernel
theorem d_RI_along_14 : decode prog_8_method_3_code 14 = .ok (.iand, 1) := by decide +kernel
theorem d_RI_along_15 : decode prog_8_method_3_code 15 = .ok (.istore 4, 2) := by decide +kernel
theorem d_RI_along_17 : decode prog_8_method_3_code 17 = .ok (.aload_n 3, 1) := by decide +kernel
theorem d_RI_along_18 : decode prog_8_method_3_code 18 = .ok (.iload_n 0, 1) := by decide +kernel
theorem d_RI_along_19 : decode prog_8_method_3_code 19 = .ok (.iaload, 1) := by decide +kernel
theorem d_RI_along_20 : decode prog_8_method_3_code 20 = .ok (.iconst (-1), 1) := by decide +kernel
theorem d_RI_along_21 : decode prog_8_method_3_code 21 = .ok (.ixor, 1) := by decide +kernel
theorem d_RI_along_22 : decode prog_8_method_3_code 22 = .ok (.iconst 1, 1) := by decide +kernel
theorem d_RI_along_23 : decode prog_8_method_3_code 23 = .ok (.iload_n 0, 1) := by decide +kernel
theorem d_RI_along_24 : decode prog_8_method_3_code 24 = .ok (.ishl, 1) := by decide +kernel
theorem d_RI_along_25 : decode prog_8_method_3_code 25 = .ok (.iconst (-1), 1) := by decide +kernel
theorem d_RI_along_26 : decode prog_8_method_3_code 26 = .ok (.ixor, 1) := by decide +kernel
theorem d_RI_along_27 : decode prog_8_method_3_code 27 = .ok (.iand, 1) := by decide +kernel
theorem d_RI_along_28 : decode prog_8_method_3_code 28 = .ok (.istore 5, 2) := by decide +kernel
theorem d_RI_along_30 : decode prog_8_method_3_code 30 = .ok (.iconst 1, 1) := by decide +kernel
theorem d_RI_along_31 : decode prog_8_method_3_code 31 = .ok (.iload_n 1, 1) := by decide +kernel
theorem d_RI_along_32 : decode prog_8_method_3_code 32 = .ok (.ishl, 1) := by decide +kernel
theorem d_RI_along_33 : decode prog_8_method_3_code 33 = .ok (.istore 6, 2) := by decide +kernel
theorem d_RI_along_35 : decode prog_8_method_3_code 35 = .ok (.iconst 0, 1) := by decide +kernel
theorem d_RI_along_36 : decode prog_8_method_3_code 36 = .ok (.istore 7, 2) := by decide +kernel
theorem d_RI_along_38 : decode prog_8_method_3_code 38 = .ok (.iload 7, 2) := by decide +kernel
theorem d_RI_along_40 : decode prog_8_method_3_code 40 = .ok (.iload_n 2, 1) := by decide +kernel
theorem d_RI_along_41 : decode prog_8_method_3_code 41 = .ok (.if_icmp .ge 52, 3) := by decide +kernel
theorem d_RI_along_44 : decode prog_8_method_3_code 44 = .ok (.iload 6, 2) := by decide +kernel
theorem d_RI_along_46 : decode prog_8_method_3_code 46 = .ok (.ifCond .eq 47, 3) := by decide +kernel
theorem d_RI_along_49 : decode prog_8_method_3_code 49 = .ok (.iload 6, 2) := by decide +kernel
theorem d_RI_along_51 : decode prog_8_method_3_code 51 = .ok (.iload_n 2, 1) := by decide +kernel
theorem d_RI_along_52 : decode prog_8_method_3_code 52 = .ok (.aload_n 3, 1) := by decide +kernel
theorem d_RI_along_53 : decode prog_8_method_3_code 53 = .ok (.invokestatic 13, 3) := by decide +kernel
theorem d_RI_along_56 : decode prog_8_method_3_code 56 = .ok (.istore 8, 2) := by decide +kernel
theorem d_RI_along_58 : decode prog_8_method_3_code 58 = .ok (.iload 8, 2) := by decide +kernel
theorem d_RI_along_60 : decode prog_8_method_3_code 60 = .ok (.iload 4, 2) := by decide +kernel
theorem d_RI_along_62 : decode prog_8_method_3_code 62 = .ok (.iand, 1) := by decide +kernel
theorem d_RI_along_63 : decode prog_8_method_3_code 63 = .ok (.ifCond .eq 8, 3) := by decide +kernel
theorem d_RI_along_66 : decode prog_8_method_3_code 66 = .ok (.iload 7, 2) := by decide +kernel
theorem d_RI_along_68 : decode prog_8_method_3_code 68 = .ok (.iconst 3, 1) := by decide +kernel
theorem d_RI_along_69 : decode prog_8_method_3_code 69 = .ok (.iadd, 1) := by decide +kernel
theorem d_RI_along_70 : decode prog_8_method_3_code 70 = .ok (.ireturn, 1) := by decide +kernel
theorem d_RI_along_71 : decode prog_8_method_3_code 71 = .ok (.iload 8, 2) := by decide +kernel
theorem d_RI_along_73 : decode prog_8_method_3_code 73 = .ok (.iload 5, 2) := by decide +kernel
theorem d_RI_along_75 : decode prog_8_method_3_code 75 = .ok (.iand, 1) := by decide +kernel
theorem d_RI_along_76 : decode prog_8_method_3_code 76 = .ok (.istore 6, 2) := by decide +kernel
theorem d_RI_along_78 : decode prog_8_method_3_code 78 = .ok (.iload 5, 2) := by decide +kernel
theorem d_RI_along_80 : decode prog_8_method_3_code 80 = .ok (.iload 6, 2) := by decide +kernel
theorem d_RI_along_82 : decode prog_8_method_3_code 82 = .ok (.iconst (-1), 1) := by decide +kernel
theorem d_RI_along_83 : decode prog_8_method_3_code 83 = .ok (.ixor, 1) := by decide +kernel
theorem d_RI_along_84 : decode prog_8_method_3_code 84 = .ok (.iand, 1) := by decide +kernel
theorem d_RI_along_85 : decode prog_8_method_3_code 85 = .ok (.istore 5, 2) := by decide +kernel
theorem d_RI_along_87 : decode prog_8_method_3_code 87 = .ok (.iinc 7 1, 3) := by decide +kernel
theorem d_RI_along_90 : decode prog_8_method_3_code 90 = .ok (.goto (-52), 3) := by decide +kernel
theorem d_RI_along_93 : decode prog_8_method_3_code 93 = .ok (.iconst 0, 1) := by decide +kernel
theorem d_RI_along_94 : decode prog_8_method_3_code 94 = .ok (.ireturn, 1) := by decide +kernel
def RI_along_38b (v2 : Int32) (h3 : Nat) (v4 : Int32) (v5 : Int32) (v6 : Int32) (v7 : Int32) (I : jM) (K : Int32 → Prop) (X38 : Int32 × Int32 × Int32 → Prop) : Prop :=
  ((v2 ≤ v7 → K (0 : Int32)) ∧ (¬ v2 ≤ v7 → ((v6 = 0 → K (0 : Int32)) ∧ (¬ v6 = 0 → RI_joinedWith v6 v2 h3 I (fun r_1 => (((r_1 &&& v4) = 0 → (∀ v6_2 : Int32, v6_2 = (r_1 &&& v5) → (∀ v5_3 : Int32, v5_3 = (v5 &&& (v6_2 ^^^ (-1 : Int32))) → X38 (v5_3, v6_2, (v7 + 1))))) ∧ (¬ (r_1 &&& v4) = 0 → K (v7 + (3 : Int32)))))))))
def RI_along_38 (v2 : Int32) (h3 : Nat) (v4 : Int32) (v5 : Int32) (v6 : Int32) (v7 : Int32) (I : jM) (K : Int32 → Prop) : Prop :=
  lp (fun (X38 : Int32 × Int32 × Int32 → Prop) (s : Int32 × Int32 × Int32) => RI_along_38b v2 h3 v4 s.1 s.2.1 s.2.2 I K X38) (v5, v6, v7)
set_option maxRecDepth 100000 in
set_option maxHeartbeats 4000000 in
theorem kb_RI_along_38 {Z : jZ} {E : jE} (C : jC Z E prog_8_method_3_code 9 "OutOrder$Rings" 1 24) (hr : (jZh Z).sig.returnType = (some .int))  (v2 : Int32) (h3 : Nat) (v4 : Int32) (v5 : Int32) (v6 : Int32) (v7 : Int32) (I : jM) (g_h3 : jAI E (jl h3) h3) {K : Int32 → Prop} {X38 : Int32 × Int32 × Int32 → Prop} (hX38 : ∀ s : Int32 × Int32 × Int32, X38 s → jJ Z E 9 (jQi Z E (fun r I2 => I = I2 ∧ K r)) 38 [(2, .int v2), (3, .ref (E.2.2.1 h3)), (4, .int v4), (5, .int s.1), (6, .int s.2.1), (7, .int s.2.2)] [] I) (h : RI_along_38b v2 h3 v4 v5 v6 v7 I K X38) : jJ Z E 9 (jQi Z E (fun r I2 => I = I2 ∧ K r)) 38 [(2, .int v2), (3, .ref (E.2.2.1 h3)), (4, .int v4), (5, .int v5), (6, .int v6), (7, .int v7)] [] I := by
  unfold RI_along_38b at h
  refine j_iload C d_RI_along_38 5 rfl ?_
  refine j_iload_n C d_RI_along_40 rfl 0 rfl ?_
  refine j_icmp_ge C d_RI_along_41 (tgt := 93) (by decide) (fun c41 => ?_) (fun c41 => ?_)
  · have h := h.1 c41
    refine j_iconst C d_RI_along_93 ic_0 ?_
    exact j_iret C hr d_RI_along_94 ⟨rfl, h⟩
  · have h := h.2 c41
    refine j_iload C d_RI_along_44 4 rfl ?_
    refine j_if_eq C d_RI_along_46 (tgt := 93) (by decide) (fun c46 => ?_) (fun c46 => ?_)
    · have h := h.1 c46
      refine j_iconst C d_RI_along_93 ic_0 ?_
      exact j_iret C hr d_RI_along_94 ⟨rfl, h⟩
    · have h := h.2 c46
      refine j_iload C d_RI_along_49 4 rfl ?_
      refine j_iload_n C d_RI_along_51 rfl 0 rfl ?_
      refine j_aload_n C d_RI_along_52 rfl 1 rfl ?_
      refine j_callSi (As := [.int v6, .int v2, .ref (E.2.2.1 h3)]) C cw_RI_13 w_565 rfl rfl (by decide) (by decide) (Nat.le_of_ble_eq_true rfl) d_RI_along_53 (s_RI_joinedWith C.ok g_h3 h) (fun r_1 I2 h => ?_)
      obtain ⟨rfl, h⟩ := h
      refine j_istore C d_RI_along_56 (by decide) (lv' := [(8, .int r_1), (2, .int v2), (3, .ref (E.2.2.1 h3)), (4, .int v4), (5, .int v5), (6, .int v6), (7, .int v7)]) rfl ?_
      refine j_iload C d_RI_along_58 0 rfl ?_
      refine j_iload C d_RI_along_60 3 rfl ?_
      refine j_iand C d_RI_along_62 ?_
      refine j_if_eq C d_RI_along_63 (tgt := 71) (by decide) (fun c63 => ?_) (fun c63 => ?_)
      · have h := h.1 c63
        refine j_iload C d_RI_along_71 0 rfl ?_
        refine j_iload C d_RI_along_73 4 rfl ?_
        refine j_iand C d_RI_along_75 ?_
        refine j_topi (fun v6_2 ev6_2 => ?_)
        have h := h v6_2 ev6_2
        refine j_istore C d_RI_along_76 (by decide) (lv' := [(6, .int v6_2), (8, .int r_1), (2, .int v2), (3, .ref (E.2.2.1 h3)), (4, .int v4), (5, .int v5), (7, .int v7)]) rfl ?_
        refine j_iload C d_RI_along_78 5 rfl ?_
        refine j_iload C d_RI_along_80 0 rfl ?_
        refine j_iconst C d_RI_along_82 ic_m1 ?_
        refine j_ixor C d_RI_along_83 ?_
        refine j_iand C d_RI_along_84 ?_
        refine j_topi (fun v5_3 ev5_3 => ?_)
        have h := h v5_3 ev5_3
        refine j_istore C d_RI_along_85 (by decide) (lv' := [(5, .int v5_3), (6, .int v6_2), (8, .int r_1), (2, .int v2), (3, .ref (E.2.2.1 h3)), (4, .int v4), (7, .int v7)]) rfl ?_
        refine j_iinc C d_RI_along_87 6 rfl (v := (v7 + 1)) rfl (by decide) (lv' := [(7, .int (v7 + 1)), (5, .int v5_3), (6, .int v6_2), (8, .int r_1), (2, .int v2), (3, .ref (E.2.2.1 h3)), (4, .int v4)]) rfl ?_
        refine j_goto C d_RI_along_90 (tgt := 38) (by decide) ?_
        refine j_lv [4, 5, 6, 1, 2, 0] rfl ?_
        exact hX38 (v5_3, v6_2, (v7 + 1)) h
      · have h := h.2 c63
        refine j_iload C d_RI_along_66 6 rfl ?_
        refine j_iconst C d_RI_along_68 ic_3 ?_
        refine j_iadd C d_RI_along_69 ?_
        exact j_iret C hr d_RI_along_70 ⟨rfl, h⟩
theorem k_RI_along_38 {Z : jZ} {E : jE} (C : jC Z E prog_8_method_3_code 9 "OutOrder$Rings" 1 24) (hr : (jZh Z).sig.returnType = (some .int))  (v2 : Int32) (h3 : Nat) (v4 : Int32) (v5 : Int32) (v6 : Int32) (v7 : Int32) (I : jM) (g_h3 : jAI E (jl h3) h3) {K : Int32 → Prop} (h : RI_along_38 v2 h3 v4 v5 v6 v7 I K) : jJ Z E 9 (jQi Z E (fun r I2 => I = I2 ∧ K r)) 38 [(2, .int v2), (3, .ref (E.2.2.1 h3)), (4, .int v4), (5, .int v5), (6, .int v6), (7, .int v7)] [] I := by
  unfold RI_along_38 at h
  exact h (fun s => jJ Z E 9 (jQi Z E (fun r I2 => I = I2 ∧ K r)) 38 [(2, .int v2), (3, .ref (E.2.2.1 h3)), (4, .int v4), (5, .int s.1), (6, .int s.2.1), (7, .int s.2.2)] [] I) (fun s hs => kb_RI_along_38 C hr v2 h3 v4 s.1 s.2.1 s.2.2 I g_h3 (fun s2 h2 => h2) hs)
/-- OutOrder$Rings.along(III[I)I -/
def RI_along (v0 : Int32) (v1 : Int32) (v2 : Int32) (h3 : Nat) (I : jM) (K : Int32 → Prop) : Prop :=
  (vp_in v0 (jl h3) ∧ (vp_in v1 (jl h3) ∧ (∀ v4_1 : Int32, v4_1 = (((I h3 v0.toNatClampNeg) &&& ((I h3 v1.toNatClampNeg) ^^^ (-1 : Int32))) &&& (((1 : Int32) <<< (v1 &&& 31)) ^^^ (-1 : Int32))) → (vp_in v0 (jl h3) ∧ (∀ v5_2 : Int32, v5_2 = (((I h3 v0.toNatClampNeg) ^^^ (-1 : Int32)) &&& (((1 : Int32) <<< (v0 &&& 31)) ^^^ (-1 : Int32))) → (∀ v6_3 : Int32, v6_3 = ((1 : Int32) <<< (v1 &&& 31)) → RI_along_38 v2 h3 v4_1 v5_2 v6_3 (0 : Int32) I K))))))
set_option maxRecDepth 100000 in
set_option maxHeartbeats 4000000 in
theorem s_RI_along {l : Launch} {E : jE} (ok : jOK E)  {v0 : Int32} {v1 : Int32} {v2 : Int32} {h3 : Nat} (g_h3 : jAI E (jl h3) h3) {I : jM} {K : Int32 → Prop} (h : RI_along v0 v1 v2 h3 I K) : jSi l E ⟨"OutOrder$Rings", "along", "(III[I)I"⟩ prog_8_method_3_code 9 (some .int) 1 24 [.int v0, .int v1, .int v2, .ref (E.2.2.1 h3)] I (fun r I2 => I = I2 ∧ K r) := by
  refine jS_ofF (own := "OutOrder$Rings") (by decide +kernel) rfl ok (Nat.le_of_ble_eq_true rfl) (fun Z _ C hr => ?_)
  show jJ Z E 9 (jQi Z E (fun r I2 => I = I2 ∧ K r)) 0 [(0, .int v0), (1, .int v1), (2, .int v2), (3, .ref (E.2.2.1 h3))] [] I
  unfold RI_along at h
  refine j_aload_n C d_RI_along_0 rfl 3 rfl ?_
  refine j_iload_n C d_RI_along_1 rfl 0 rfl ?_
  obtain ⟨hi, h⟩ := h
  refine j_iaload C g_h3 hi d_RI_along_2 ?_
  refine j_aload_n C d_RI_along_3 rfl 3 rfl ?_
  refine j_iload_n C d_RI_along_4 rfl 1 rfl ?_
  obtain ⟨hi, h⟩ := h
  refine j_iaload C g_h3 hi d_RI_along_5 ?_
  refine j_iconst C d_RI_along_6 ic_m1 ?_
  refine j_ixor C d_RI_along_7 ?_
  refine j_iand C d_RI_along_8 ?_
  refine j_iconst C d_RI_along_9 ic_1 ?_
  refine j_iload_n C d_RI_along_10 rfl 1 rfl ?_
  refine j_ishl C d_RI_along_11 ?_
  refine j_iconst C d_RI_along_12 ic_m1 ?_
  refine j_ixor C d_RI_along_13 ?_
  refine j_iand C d_RI_along_14 ?_
  refine j_topi (fun v4_1 ev4_1 => ?_)
  have h := h v4_1 ev4_1
  refine j_istore C d_RI_along_15 (by decide) (lv' := [(4, .int v4_1), (0, .int v0), (1, .int v1), (2, .int v2), (3, .ref (E.2.2.1 h3))]) rfl ?_
  refine j_aload_n C d_RI_along_17 rfl 4 rfl ?_
  refine j_iload_n C d_RI_along_18 rfl 1 rfl ?_
  obtain ⟨hi, h⟩ := h
  refine j_iaload C g_h3 hi d_RI_along_19 ?_
  refine j_iconst C d_RI_along_20 ic_m1 ?_
  refine j_ixor C d_RI_along_21 ?_
  refine j_iconst C d_RI_along_22 ic_1 ?_
  refine j_iload_n C d_RI_along_23 rfl 1 rfl ?_
  refine j_ishl C d_RI_along_24 ?_
  refine j_iconst C d_RI_along_25 ic_m1 ?_
  refine j_ixor C d_RI_along_26 ?_
  refine j_iand C d_RI_along_27 ?_
  refine j_topi (fun v5_2 ev5_2 => ?_)
  have h := h v5_2 ev5_2
  refine j_istore C d_RI_along_28 (by decide) (lv' := [(5, .int v5_2), (4, .int v4_1), (0, .int v0), (1, .int v1), (2, .int v2), (3, .ref (E.2.2.1 h3))]) rfl ?_
  refine j_iconst C d_RI_along_30 ic_1 ?_
  refine j_iload_n C d_RI_along_31 rfl 3 rfl ?_
  refine j_ishl C d_RI_along_32 ?_
  refine j_topi (fun v6_3 ev6_3 => ?_)
  have h := h v6_3 ev6_3
  refine j_istore C d_RI_along_33 (by decide) (lv' := [(6, .int v6_3), (5, .int v5_2), (4, .int v4_1), (0, .int v0), (1, .int v1), (2, .int v2), (3, .ref (E.2.2.1 h3))]) rfl ?_
  refine j_iconst C d_RI_along_35 ic_0 ?_
  refine j_istore C d_RI_along_36 (by decide) (lv' := [(7, .int (0 : Int32)), (6, .int v6_3), (5, .int v5_2), (4, .int v4_1), (0, .int v0), (1, .int v1), (2, .int v2), (3, .ref (E.2.2.1 h3))]) rfl ?_
  refine j_lv [6, 7, 3, 2, 1, 0] rfl ?_
  exact k_RI_along_38 C hr v2 h3 v4_1 v5_2 v6_3 (0 : Int32) I g_h3 h
theorem d_RI_shortest_0 : decode prog_8_method_2_code 0 = .ok (.iconst 0, 1) := by decide +kernel
theorem d_RI_shortest_1 : decode prog_8_method_2_code 1 = .ok (.istore_n 2, 1) := by decide +kernel
theorem d_RI_shortest_2 : decode prog_8_method_2_code 2 = .ok (.iconst 0, 1) := by decide +kernel
theorem d_RI_shortest_3 : decode prog_8_method_2_code 3 = .ok (.istore_n 3, 1) := by decide +kernel
theorem d_RI_shortest_4 : decode prog_8_method_2_code 4 = .ok (.iload_n 3, 1) := by decide +kernel
theorem d_RI_shortest_5 : decode prog_8_method_2_code 5 = .ok (.iload_n 0, 1) := by decide +kernel
theorem d_RI_shortest_6 : decode prog_8_method_2_code 6 = .ok (.if_icmp .ge 68, 3) := by decide +kernel
theorem d_RI_shortest_9 : decode prog_8_method_2_code 9 = .ok (.iconst 0, 1) := by decide +kernel
theorem d_RI_shortest_10 : decode prog_8_method_2_code 10 = .ok (.istore 4, 2) := by decide +kernel
theorem d_RI_shortest_12 : decode prog_8_method_2_code 12 = .ok (.iload 4, 2) := by decide +kernel
theorem d_RI_shortest_14 : decode prog_8_method_2_code 14 = .ok (.iload_n 0, 1) := by decide +kernel
theorem d_RI_shortest_15 : decode prog_8_method_2_code 15 = .ok (.if_icmp .ge 53, 3) := by decide +kernel
theorem d_RI_shortest_18 : decode prog_8_method_2_code 18 = .ok (.aload_n 1, 1) := by decide +kernel
theorem d_RI_shortest_19 : decode prog_8_method_2_code 19 = .ok (.iload_n 3, 1) := by decide +kernel
theorem d_RI_shortest_20 : decode prog_8_method_2_code 20 = .ok (.iaload, 1) := by decide +kernel
theorem d_RI_shortest_21 : decode prog_8_method_2_code 21 = .ok (.iload 4, 2) := by decide +kernel
theorem d_RI_shortest_23 : decode prog_8_method_2_code 23 = .ok (.ishr, 1) := by decide +kernel
theorem d_RI_shortest_24 : decode prog_8_method_2_code 24 = .ok (.iconst 1, 1) := by decide +kernel
theorem d_RI_shortest_25 : decode prog_8_method_2_code 25 = .ok (.iand, 1) := by decide +kernel
theorem d_RI_shortest_26 : decode prog_8_method_2_code 26 = .ok (.iconst 1, 1) := by decide +kernel
theorem d_RI_shortest_27 : decode prog_8_method_2_code 27 = .ok (.if_icmp .ne 14, 3) := by decide +kernel
theorem d_RI_shortest_30 : decode prog_8_method_2_code 30 = .ok (.iload_n 3, 1) := by decide +kernel
theorem d_RI_shortest_31 : decode prog_8_method_2_code 31 = .ok (.iload 4, 2) := by decide +kernel
theorem d_RI_shortest_33 : decode prog_8_method_2_code 33 = .ok (.iload_n 0, 1) := by decide +kernel
theorem d_RI_shortest_34 : decode prog_8_method_2_code 34 = .ok (.aload_n 1, 1) := by decide +kernel
theorem d_RI_shortest_35 : decode prog_8_method_2_code 35 = .ok (.invokestatic 7, 3) := by decide +kernel
theorem d_RI_shortest_38 : decode prog_8_method_2_code 38 = .ok (.goto 4, 3) := by decide +kernel
theorem d_RI_shortest_41 : decode prog_8_method_2_code 41 = .ok (.iconst 0, 1) := by decide +kernel
theorem d_RI_shortest_42 : decode prog_8_method_2_code 42 = .ok (.istore 5, 2) := by decide +kernel
theorem d_RI_shortest_44 : decode prog_8_method_2_code 44 = .ok (.iload 5, 2) := by decide +kernel
theorem d_RI_shortest_46 : decode prog_8_method_2_code 46 = .ok (.ifCond .eq 16, 3) := by decide +kernel
theorem d_RI_shortest_49 : decode prog_8_method_2_code 49 = .ok (.iload_n 2, 1) := by decide +kernel
theorem d_RI_shortest_50 : decode prog_8_method_2_code 50 = .ok (.ifCond .eq 9, 3) := by decide +kernel
theorem d_RI_shortest_53 : decode prog_8_method_2_code 53 = .ok (.iload 5, 2) := by decide +kernel
theorem d_RI_shortest_55 : decode prog_8_method_2_code 55 = .ok (.iload_n 2, 1) := by decide +kernel
theorem d_RI_shortest_56 : decode prog_8_method_2_code 56 = .ok (.if_icmp .ge 6, 3) := by decide +kernel
theorem d_RI_shortest_59 : decode prog_8_method_2_code 59 = .ok (.iload 5, 2) := by decide +kernel
theorem d_RI_shortest_61 : decode prog_8_method_2_code 61 = .ok (.istore_n 2, 1) := by decide +kernel
theorem d_RI_shortest_62 : decode prog_8_method_2_code 62 = .ok (.iinc 4 1, 3) := by decide +kernel
theorem d_RI_shortest_65 : decode prog_8_method_2_code 65 = .ok (.goto (-53), 3) := by decide +kernel
theorem d_RI_shortest_68 : decode prog_8_method_2_code 68 = .ok (.iinc 3 1, 3) := by decide +kernel
theorem d_RI_shortest_71 : decode prog_8_method_2_code 71 = .ok (.goto (-67), 3) := by decide +kernel
theorem d_RI_shortest_74 : decode prog_8_method_2_code 74 = .ok (.iload_n 2, 1) := by decide +kernel
theorem d_RI_shortest_75 : decode prog_8_method_2_code 75 = .ok (.ireturn, 1) := by decide +kernel
def RI_shortest_42 (v0 : Int32) (h1 : Nat) (v2 : Int32) (v3 : Int32) (v4 : Int32) (s0 : Int32) (I : jM) (K : Int32 → Prop) (X4 : Int32 × Int32 → Prop) (X12 : Int32 × Int32 → Prop) : Prop :=
  ((s0 = 0 → X12 (v2, (v4 + 1))) ∧ (¬ s0 = 0 → ((v2 = 0 → X12 (s0, (v4 + 1))) ∧ (¬ v2 = 0 → ((v2 ≤ s0 → X12 (v2, (v4 + 1))) ∧ (¬ v2 ≤ s0 → X12 (s0, (v4 + 1))))))))
set_option maxRecDepth 100000 in
set_option maxHeartbeats 4000000 in
theorem k_RI_shortest_42 {Z : jZ} {E : jE} (C : jC Z E prog_8_method_2_code 6 "OutOrder$Rings" 2 52) (hr : (jZh Z).sig.returnType = (some .int))  (v0 : Int32) (h1 : Nat) (v2 : Int32) (v3 : Int32) (v4 : Int32) (s0 : Int32) (I : jM) (g_h1 : jAI E (jl h1) h1) {K : Int32 → Prop} {X4 : Int32 × Int32 → Prop} {X12 : Int32 × Int32 → Prop} (hX4 : ∀ s : Int32 × Int32, X4 s → jJ Z E 6 (jQi Z E (fun r I2 => I = I2 ∧ K r)) 4 [(0, .int v0), (1, .ref (E.2.2.1 h1)), (2, .int s.1), (3, .int s.2)] [] I) (hX12 : ∀ s : Int32 × Int32, X12 s → jJ Z E 6 (jQi Z E (fun r I2 => I = I2 ∧ K r)) 12 [(0, .int v0), (1, .ref (E.2.2.1 h1)), (2, .int s.1), (3, .int v3), (4, .int s.2)] [] I) (h : RI_shortest_42 v0 h1 v2 v3 v4 s0 I K X4 X12) : jJ Z E 6 (jQi Z E (fun r I2 => I = I2 ∧ K r)) 42 [(0, .int v0), (1, .ref (E.2.2.1 h1)), (2, .int v2), (3, .int v3), (4, .int v4)] [.int s0] I := by
  unfold RI_shortest_42 at h
  refine j_istore C d_RI_shortest_42 (by decide) (lv' := [(5, .int s0), (0, .int v0), (1, .ref (E.2.2.1 h1)), (2, .int v2), (3, .int v3), (4, .int v4)]) rfl ?_
  refine j_iload C d_RI_shortest_44 0 rfl ?_
  refine j_if_eq C d_RI_shortest_46 (tgt := 62) (by decide) (fun c46 => ?_) (fun c46 => ?_)
  · have h := h.1 c46
    refine j_iinc C d_RI_shortest_62 5 rfl (v := (v4 + 1)) rfl (by decide) (lv' := [(4, .int (v4 + 1)), (5, .int s0), (0, .int v0), (1, .ref (E.2.2.1 h1)), (2, .int v2), (3, .int v3)]) rfl ?_
    refine j_goto C d_RI_shortest_65 (tgt := 12) (by decide) ?_
    refine j_lv [2, 3, 4, 5, 0] rfl ?_
    exact hX12 (v2, (v4 + 1)) h
  · have h := h.2 c46
    refine j_iload_n C d_RI_shortest_49 rfl 3 rfl ?_
    refine j_if_eq C d_RI_shortest_50 (tgt := 59) (by decide) (fun c50 => ?_) (fun c50 => ?_)
    · have h := h.1 c50
      refine j_iload C d_RI_shortest_59 0 rfl ?_
      refine j_istore_n C d_RI_shortest_61 rfl (by decide) (lv' := [(2, .int s0), (5, .int s0), (0, .int v0), (1, .ref (E.2.2.1 h1)), (3, .int v3), (4, .int v4)]) rfl ?_
      refine j_iinc C d_RI_shortest_62 5 rfl (v := (v4 + 1)) rfl (by decide) (lv' := [(4, .int (v4 + 1)), (2, .int s0), (5, .int s0), (0, .int v0), (1, .ref (E.2.2.1 h1)), (3, .int v3)]) rfl ?_
      refine j_goto C d_RI_shortest_65 (tgt := 12) (by decide) ?_
      refine j_lv [3, 4, 1, 5, 0] rfl ?_
      exact hX12 (s0, (v4 + 1)) h
    · have h := h.2 c50
      refine j_iload C d_RI_shortest_53 0 rfl ?_
      refine j_iload_n C d_RI_shortest_55 rfl 3 rfl ?_
      refine j_icmp_ge C d_RI_shortest_56 (tgt := 62) (by decide) (fun c56 => ?_) (fun c56 => ?_)
      · have h := h.1 c56
        refine j_iinc C d_RI_shortest_62 5 rfl (v := (v4 + 1)) rfl (by decide) (lv' := [(4, .int (v4 + 1)), (5, .int s0), (0, .int v0), (1, .ref (E.2.2.1 h1)), (2, .int v2), (3, .int v3)]) rfl ?_
        refine j_goto C d_RI_shortest_65 (tgt := 12) (by decide) ?_
        refine j_lv [2, 3, 4, 5, 0] rfl ?_
        exact hX12 (v2, (v4 + 1)) h
      · have h := h.2 c56
        refine j_iload C d_RI_shortest_59 0 rfl ?_
        refine j_istore_n C d_RI_shortest_61 rfl (by decide) (lv' := [(2, .int s0), (5, .int s0), (0, .int v0), (1, .ref (E.2.2.1 h1)), (3, .int v3), (4, .int v4)]) rfl ?_
        refine j_iinc C d_RI_shortest_62 5 rfl (v := (v4 + 1)) rfl (by decide) (lv' := [(4, .int (v4 + 1)), (2, .int s0), (5, .int s0), (0, .int v0), (1, .ref (E.2.2.1 h1)), (3, .int v3)]) rfl ?_
        refine j_goto C d_RI_shortest_65 (tgt := 12) (by decide) ?_
        refine j_lv [3, 4, 1, 5, 0] rfl ?_
        exact hX12 (s0, (v4 + 1)) h
def RI_shortest_12b (v0 : Int32) (h1 : Nat) (v2 : Int32) (v3 : Int32) (v4 : Int32) (I : jM) (K : Int32 → Prop) (X4 : Int32 × Int32 → Prop) (X12 : Int32 × Int32 → Prop) : Prop :=
  ((v0 ≤ v4 → X4 (v2, (v3 + 1))) ∧ (¬ v0 ≤ v4 → (vp_in v3 (jl h1) ∧ ((¬ (((I h1 v3.toNatClampNeg) >>> (v4 &&& 31)) &&& (1 : Int32)) = (1 : Int32) → RI_shortest_42 v0 h1 v2 v3 v4 (0 : Int32) I K X4 X12) ∧ ((((I h1 v3.toNatClampNeg) >>> (v4 &&& 31)) &&& (1 : Int32)) = (1 : Int32) → RI_along v3 v4 v0 h1 I (fun r_1 => RI_shortest_42 v0 h1 v2 v3 v4 r_1 I K X4 X12))))))
def RI_shortest_12 (v0 : Int32) (h1 : Nat) (v2 : Int32) (v3 : Int32) (v4 : Int32) (I : jM) (K : Int32 → Prop) (X4 : Int32 × Int32 → Prop) : Prop :=
  lp (fun (X12 : Int32 × Int32 → Prop) (s : Int32 × Int32) => RI_shortest_12b v0 h1 s.1 v3 s.2 I K X4 X12) (v2, v4)
set_option maxRecDepth 100000 in
set_option maxHeartbeats 4000000 in
theorem kb_RI_shortest_12 {Z : jZ} {E : jE} (C : jC Z E prog_8_method_2_code 6 "OutOrder$Rings" 2 52) (hr : (jZh Z).sig.returnType = (some .int))  (v0 : Int32) (h1 : Nat) (v2 : Int32) (v3 : Int32) (v4 : Int32) (I : jM) (g_h1 : jAI E (jl h1) h1) {K : Int32 → Prop} {X4 : Int32 × Int32 → Prop} (hX4 : ∀ s : Int32 × Int32, X4 s → jJ Z E 6 (jQi Z E (fun r I2 => I = I2 ∧ K r)) 4 [(0, .int v0), (1, .ref (E.2.2.1 h1)), (2, .int s.1), (3, .int s.2)] [] I) {X12 : Int32 × Int32 → Prop} (hX12 : ∀ s : Int32 × Int32, X12 s → jJ Z E 6 (jQi Z E (fun r I2 => I = I2 ∧ K r)) 12 [(0, .int v0), (1, .ref (E.2.2.1 h1)), (2, .int s.1), (3, .int v3), (4, .int s.2)] [] I) (h : RI_shortest_12b v0 h1 v2 v3 v4 I K X4 X12) : jJ Z E 6 (jQi Z E (fun r I2 => I = I2 ∧ K r)) 12 [(0, .int v0), (1, .ref (E.2.2.1 h1)), (2, .int v2), (3, .int v3), (4, .int v4)] [] I := by
  unfold RI_shortest_12b at h
  refine j_iload C d_RI_shortest_12 4 rfl ?_
  refine j_iload_n C d_RI_shortest_14 rfl 0 rfl ?_
  refine j_icmp_ge C d_RI_shortest_15 (tgt := 68) (by decide) (fun c15 => ?_) (fun c15 => ?_)
  · have h := h.1 c15
    refine j_iinc C d_RI_shortest_68 3 rfl (v := (v3 + 1)) rfl (by decide) (lv' := [(3, .int (v3 + 1)), (0, .int v0), (1, .ref (E.2.2.1 h1)), (2, .int v2), (4, .int v4)]) rfl ?_
    refine j_goto C d_RI_shortest_71 (tgt := 4) (by decide) ?_
    refine j_lv [1, 2, 3, 0] rfl ?_
    exact hX4 (v2, (v3 + 1)) h
  · have h := h.2 c15
    refine j_aload_n C d_RI_shortest_18 rfl 1 rfl ?_
    refine j_iload_n C d_RI_shortest_19 rfl 3 rfl ?_
    obtain ⟨hi, h⟩ := h
    refine j_iaload C g_h1 hi d_RI_shortest_20 ?_
    refine j_iload C d_RI_shortest_21 4 rfl ?_
    refine j_ishr C d_RI_shortest_23 ?_
    refine j_iconst C d_RI_shortest_24 ic_1 ?_
    refine j_iand C d_RI_shortest_25 ?_
    refine j_iconst C d_RI_shortest_26 ic_1 ?_
    refine j_icmp_ne C d_RI_shortest_27 (tgt := 41) (by decide) (fun c27 => ?_) (fun c27 => ?_)
    · have h := h.1 c27
      refine j_iconst C d_RI_shortest_41 ic_0 ?_
      refine j_lv [0, 1, 2, 3, 4] rfl ?_
      exact k_RI_shortest_42 C hr v0 h1 v2 v3 v4 (0 : Int32) I g_h1 hX4 hX12 h
    · have h := h.2 c27
      refine j_iload_n C d_RI_shortest_30 rfl 3 rfl ?_
      refine j_iload C d_RI_shortest_31 4 rfl ?_
      refine j_iload_n C d_RI_shortest_33 rfl 0 rfl ?_
      refine j_aload_n C d_RI_shortest_34 rfl 1 rfl ?_
      refine j_callSi (As := [.int v3, .int v4, .int v0, .ref (E.2.2.1 h1)]) C cw_RI_7 w_562 rfl rfl (by decide) (by decide) (Nat.le_of_ble_eq_true rfl) d_RI_shortest_35 (s_RI_along C.ok g_h1 h) (fun r_1 I2 h => ?_)
      obtain ⟨rfl, h⟩ := h
      refine j_goto C d_RI_shortest_38 (tgt := 42) (by decide) ?_
      refine j_lv [0, 1, 2, 3, 4] rfl ?_
      exact k_RI_shortest_42 C hr v0 h1 v2 v3 v4 r_1 I g_h1 hX4 hX12 h
theorem k_RI_shortest_12 {Z : jZ} {E : jE} (C : jC Z E prog_8_method_2_code 6 "OutOrder$Rings" 2 52) (hr : (jZh Z).sig.returnType = (some .int))  (v0 : Int32) (h1 : Nat) (v2 : Int32) (v3 : Int32) (v4 : Int32) (I : jM) (g_h1 : jAI E (jl h1) h1) {K : Int32 → Prop} {X4 : Int32 × Int32 → Prop} (hX4 : ∀ s : Int32 × Int32, X4 s → jJ Z E 6 (jQi Z E (fun r I2 => I = I2 ∧ K r)) 4 [(0, .int v0), (1, .ref (E.2.2.1 h1)), (2, .int s.1), (3, .int s.2)] [] I) (h : RI_shortest_12 v0 h1 v2 v3 v4 I K X4) : jJ Z E 6 (jQi Z E (fun r I2 => I = I2 ∧ K r)) 12 [(0, .int v0), (1, .ref (E.2.2.1 h1)), (2, .int v2), (3, .int v3), (4, .int v4)] [] I := by
  unfold RI_shortest_12 at h
  exact h (fun s => jJ Z E 6 (jQi Z E (fun r I2 => I = I2 ∧ K r)) 12 [(0, .int v0), (1, .ref (E.2.2.1 h1)), (2, .int s.1), (3, .int v3), (4, .int s.2)] [] I) (fun s hs => kb_RI_shortest_12 C hr v0 h1 s.1 v3 s.2 I g_h1 hX4 (fun s2 h2 => h2) hs)
def RI_shortest_4b (v0 : Int32) (h1 : Nat) (v2 : Int32) (v3 : Int32) (I : jM) (K : Int32 → Prop) (X4 : Int32 × Int32 → Prop) : Prop :=
  ((v0 ≤ v3 → K v2) ∧ (¬ v0 ≤ v3 → RI_shortest_12 v0 h1 v2 v3 (0 : Int32) I K X4))
def RI_shortest_4 (v0 : Int32) (h1 : Nat) (v2 : Int32) (v3 : Int32) (I : jM) (K : Int32 → Prop) : Prop :=
  lp (fun (X4 : Int32 × Int32 → Prop) (s : Int32 × Int32) => RI_shortest_4b v0 h1 s.1 s.2 I K X4) (v2, v3)
set_option maxRecDepth 100000 in
set_option maxHeartbeats 4000000 in
theorem kb_RI_shortest_4 {Z : jZ} {E : jE} (C : jC Z E prog_8_method_2_code 6 "OutOrder$Rings" 2 52) (hr : (jZh Z).sig.returnType = (some .int))  (v0 : Int32) (h1 : Nat) (v2 : Int32) (v3 : Int32) (I : jM) (g_h1 : jAI E (jl h1) h1) {K : Int32 → Prop} {X4 : Int32 × Int32 → Prop} (hX4 : ∀ s : Int32 × Int32, X4 s → jJ Z E 6 (jQi Z E (fun r I2 => I = I2 ∧ K r)) 4 [(0, .int v0), (1, .ref (E.2.2.1 h1)), (2, .int s.1), (3, .int s.2)] [] I) (h : RI_shortest_4b v0 h1 v2 v3 I K X4) : jJ Z E 6 (jQi Z E (fun r I2 => I = I2 ∧ K r)) 4 [(0, .int v0), (1, .ref (E.2.2.1 h1)), (2, .int v2), (3, .int v3)] [] I := by
  unfold RI_shortest_4b at h
  refine j_iload_n C d_RI_shortest_4 rfl 3 rfl ?_
  refine j_iload_n C d_RI_shortest_5 rfl 0 rfl ?_
  refine j_icmp_ge C d_RI_shortest_6 (tgt := 74) (by decide) (fun c6 => ?_) (fun c6 => ?_)
  · have h := h.1 c6
    refine j_iload_n C d_RI_shortest_74 rfl 2 rfl ?_
    exact j_iret C hr d_RI_shortest_75 ⟨rfl, h⟩
  · have h := h.2 c6
    refine j_iconst C d_RI_shortest_9 ic_0 ?_
    refine j_istore C d_RI_shortest_10 (by decide) (lv' := [(4, .int (0 : Int32)), (0, .int v0), (1, .ref (E.2.2.1 h1)), (2, .int v2), (3, .int v3)]) rfl ?_
    refine j_lv [1, 2, 3, 4, 0] rfl ?_
    exact k_RI_shortest_12 C hr v0 h1 v2 v3 (0 : Int32) I g_h1 hX4 h
theorem k_RI_shortest_4 {Z : jZ} {E : jE} (C : jC Z E prog_8_method_2_code 6 "OutOrder$Rings" 2 52) (hr : (jZh Z).sig.returnType = (some .int))  (v0 : Int32) (h1 : Nat) (v2 : Int32) (v3 : Int32) (I : jM) (g_h1 : jAI E (jl h1) h1) {K : Int32 → Prop} (h : RI_shortest_4 v0 h1 v2 v3 I K) : jJ Z E 6 (jQi Z E (fun r I2 => I = I2 ∧ K r)) 4 [(0, .int v0), (1, .ref (E.2.2.1 h1)), (2, .int v2), (3, .int v3)] [] I := by
  unfold RI_shortest_4 at h
  exact h (fun s => jJ Z E 6 (jQi Z E (fun r I2 => I = I2 ∧ K r)) 4 [(0, .int v0), (1, .ref (E.2.2.1 h1)), (2, .int s.1), (3, .int s.2)] [] I) (fun s hs => kb_RI_shortest_4 C hr v0 h1 s.1 s.2 I g_h1 (fun s2 h2 => h2) hs)
/-- OutOrder$Rings.shortest(I[I)I -/
def RI_shortest (v0 : Int32) (h1 : Nat) (I : jM) (K : Int32 → Prop) : Prop :=
  RI_shortest_4 v0 h1 (0 : Int32) (0 : Int32) I K
set_option maxRecDepth 100000 in
set_option maxHeartbeats 4000000 in
theorem s_RI_shortest {l : Launch} {E : jE} (ok : jOK E)  {v0 : Int32} {h1 : Nat} (g_h1 : jAI E (jl h1) h1) {I : jM} {K : Int32 → Prop} (h : RI_shortest v0 h1 I K) : jSi l E ⟨"OutOrder$Rings", "shortest", "(I[I)I"⟩ prog_8_method_2_code 6 (some .int) 2 52 [.int v0, .ref (E.2.2.1 h1)] I (fun r I2 => I = I2 ∧ K r) := by
  refine jS_ofF (own := "OutOrder$Rings") (by decide +kernel) rfl ok (Nat.le_of_ble_eq_true rfl) (fun Z _ C hr => ?_)
  show jJ Z E 6 (jQi Z E (fun r I2 => I = I2 ∧ K r)) 0 [(0, .int v0), (1, .ref (E.2.2.1 h1))] [] I
  unfold RI_shortest at h
  refine j_iconst C d_RI_shortest_0 ic_0 ?_
  refine j_istore_n C d_RI_shortest_1 rfl (by decide) (lv' := [(2, .int (0 : Int32)), (0, .int v0), (1, .ref (E.2.2.1 h1))]) rfl ?_
  refine j_iconst C d_RI_shortest_2 ic_0 ?_
  refine j_istore_n C d_RI_shortest_3 rfl (by decide) (lv' := [(3, .int (0 : Int32)), (2, .int (0 : Int32)), (0, .int v0), (1, .ref (E.2.2.1 h1))]) rfl ?_
  refine j_lv [2, 3, 1, 0] rfl ?_
  exact k_RI_shortest_4 C hr v0 h1 (0 : Int32) (0 : Int32) I g_h1 h
