theorem d_WO_canDivide_0 : decode prog_12_method_9_code 0 = .ok (.iconst 0, 1) := by decide +kernel
theorem d_WO_canDivide_1 : decode prog_12_method_9_code 1 = .ok (.istore_n 2, 1) := by decide +kernel
theorem d_WO_canDivide_2 : decode prog_12_method_9_code 2 = .ok (.iload_n 2, 1) := by decide +kernel
theorem d_WO_canDivide_3 : decode prog_12_method_9_code 3 = .ok (.aload_n 0, 1) := by decide +kernel
theorem d_WO_canDivide_4 : decode prog_12_method_9_code 4 = .ok (.getfield 30, 3) := by decide +kernel
theorem d_WO_canDivide_7 : decode prog_12_method_9_code 7 = .ok (.if_icmp .ge 20, 3) := by decide +kernel
theorem d_WO_canDivide_10 : decode prog_12_method_9_code 10 = .ok (.aload_n 0, 1) := by decide +kernel
theorem d_WO_canDivide_11 : decode prog_12_method_9_code 11 = .ok (.getfield 16, 3) := by decide +kernel
theorem d_WO_canDivide_14 : decode prog_12_method_9_code 14 = .ok (.iload_n 2, 1) := by decide +kernel
theorem d_WO_canDivide_15 : decode prog_12_method_9_code 15 = .ok (.iaload, 1) := by decide +kernel
theorem d_WO_canDivide_16 : decode prog_12_method_9_code 16 = .ok (.ifCond .ne 5, 3) := by decide +kernel
theorem d_WO_canDivide_19 : decode prog_12_method_9_code 19 = .ok (.iconst 0, 1) := by decide +kernel
theorem d_WO_canDivide_20 : decode prog_12_method_9_code 20 = .ok (.ireturn, 1) := by decide +kernel
theorem d_WO_canDivide_21 : decode prog_12_method_9_code 21 = .ok (.iinc 2 1, 3) := by decide +kernel
theorem d_WO_canDivide_24 : decode prog_12_method_9_code 24 = .ok (.goto (-22), 3) := by decide +kernel
theorem d_WO_canDivide_27 : decode prog_12_method_9_code 27 = .ok (.aload_n 0, 1) := by decide +kernel
theorem d_WO_canDivide_28 : decode prog_12_method_9_code 28 = .ok (.getfield 30, 3) := by decide +kernel
theorem d_WO_canDivide_31 : decode prog_12_method_9_code 31 = .ok (.iload_n 1, 1) := by decide +kernel
theorem d_WO_canDivide_32 : decode prog_12_method_9_code 32 = .ok (.if_icmp .ne 7, 3) := by decide +kernel
theorem d_WO_canDivide_35 : decode prog_12_method_9_code 35 = .ok (.iconst 1, 1) := by decide +kernel
theorem d_WO_canDivide_36 : decode prog_12_method_9_code 36 = .ok (.goto 4, 3) := by decide +kernel
theorem d_WO_canDivide_39 : decode prog_12_method_9_code 39 = .ok (.iconst 0, 1) := by decide +kernel
theorem d_WO_canDivide_40 : decode prog_12_method_9_code 40 = .ok (.ireturn, 1) := by decide +kernel
def WO_canDivide_2b (h0 : Nat) (v1 : Int32) (v2 : Int32) (I : jM) (K : Int32 → Prop) (X2 : Int32 → Prop) : Prop :=
  (((I h0 4) ≤ v2 → ((¬ (I h0 4) = v1 → K (0 : Int32)) ∧ ((I h0 4) = v1 → K (1 : Int32)))) ∧ (¬ (I h0 4) ≤ v2 → (vp_in v2 24 ∧ ((¬ (I (jr h0 1) v2.toNatClampNeg) = 0 → X2 (v2 + 1)) ∧ ((I (jr h0 1) v2.toNatClampNeg) = 0 → K (0 : Int32))))))
def WO_canDivide_2 (h0 : Nat) (v1 : Int32) (v2 : Int32) (I : jM) (K : Int32 → Prop) : Prop :=
  lp (fun (X2 : Int32 → Prop) (s : Int32) => WO_canDivide_2b h0 v1 s I K X2) v2
set_option maxRecDepth 100000 in
set_option maxHeartbeats 4000000 in
theorem kb_WO_canDivide_2 {Z : jZ} {E : jE} (C : jC Z E prog_12_method_9_code 3 "OutOrder$Work" 0 0) (hr : (jZh Z).sig.returnType = (some .boolean)) (hE : E.2.2.2 = jLX)  (h0 : Nat) (v1 : Int32) (v2 : Int32) (I : jM) (g_h0 : jOB E 9 h0) {K : Int32 → Prop} {X2 : Int32 → Prop} (hX2 : ∀ s : Int32, X2 s → jJ Z E 3 (jQi Z E (fun r I2 => I = I2 ∧ K r)) 2 [(0, .ref (E.2.2.1 h0)), (1, .int v1), (2, .int s)] [] I) (h : WO_canDivide_2b h0 v1 v2 I K X2) : jJ Z E 3 (jQi Z E (fun r I2 => I = I2 ∧ K r)) 2 [(0, .ref (E.2.2.1 h0)), (1, .int v1), (2, .int v2)] [] I := by
  unfold WO_canDivide_2b at h
  refine j_iload_n C d_WO_canDivide_2 rfl 2 rfl ?_
  refine j_aload_n C d_WO_canDivide_3 rfl 0 rfl ?_
  refine fg_WO_30 C g_h0 d_WO_canDivide_4 ?_
  refine j_icmp_ge C d_WO_canDivide_7 (tgt := 27) (by decide) (fun c7 => ?_) (fun c7 => ?_)
  · have h := h.1 c7
    refine j_aload_n C d_WO_canDivide_27 rfl 0 rfl ?_
    refine fg_WO_30 C g_h0 d_WO_canDivide_28 ?_
    refine j_iload_n C d_WO_canDivide_31 rfl 1 rfl ?_
    refine j_icmp_ne C d_WO_canDivide_32 (tgt := 39) (by decide) (fun c32 => ?_) (fun c32 => ?_)
    · have h := h.1 c32
      refine j_iconst C d_WO_canDivide_39 ic_0 ?_
      exact j_zret C hr (by decide) d_WO_canDivide_40 ⟨rfl, h⟩
    · have h := h.2 c32
      refine j_iconst C d_WO_canDivide_35 ic_1 ?_
      refine j_goto C d_WO_canDivide_36 (tgt := 40) (by decide) ?_
      exact j_zret C hr (by decide) d_WO_canDivide_40 ⟨rfl, h⟩
  · have h := h.2 c7
    refine j_aload_n C d_WO_canDivide_10 rfl 0 rfl ?_
    refine fg_WO_16 C g_h0 d_WO_canDivide_11 ?_
    refine j_iload_n C d_WO_canDivide_14 rfl 2 rfl ?_
    obtain ⟨hi, h⟩ := h
    refine j_iaload C (sh_WO_1 hE g_h0) hi d_WO_canDivide_15 ?_
    refine j_if_ne C d_WO_canDivide_16 (tgt := 21) (by decide) (fun c16 => ?_) (fun c16 => ?_)
    · have h := h.1 c16
      refine j_iinc C d_WO_canDivide_21 2 rfl (v := (v2 + 1)) rfl (by decide) (lv' := [(2, .int (v2 + 1)), (0, .ref (E.2.2.1 h0)), (1, .int v1)]) rfl ?_
      refine j_goto C d_WO_canDivide_24 (tgt := 2) (by decide) ?_
      refine j_lv [1, 2, 0] rfl ?_
      exact hX2 (v2 + 1) h
    · have h := h.2 c16
      refine j_iconst C d_WO_canDivide_19 ic_0 ?_
      exact j_zret C hr (by decide) d_WO_canDivide_20 ⟨rfl, h⟩
theorem k_WO_canDivide_2 {Z : jZ} {E : jE} (C : jC Z E prog_12_method_9_code 3 "OutOrder$Work" 0 0) (hr : (jZh Z).sig.returnType = (some .boolean)) (hE : E.2.2.2 = jLX)  (h0 : Nat) (v1 : Int32) (v2 : Int32) (I : jM) (g_h0 : jOB E 9 h0) {K : Int32 → Prop} (h : WO_canDivide_2 h0 v1 v2 I K) : jJ Z E 3 (jQi Z E (fun r I2 => I = I2 ∧ K r)) 2 [(0, .ref (E.2.2.1 h0)), (1, .int v1), (2, .int v2)] [] I := by
  unfold WO_canDivide_2 at h
  exact h (fun s => jJ Z E 3 (jQi Z E (fun r I2 => I = I2 ∧ K r)) 2 [(0, .ref (E.2.2.1 h0)), (1, .int v1), (2, .int s)] [] I) (fun s hs => kb_WO_canDivide_2 C hr hE h0 v1 s I g_h0 (fun s2 h2 => h2) hs)
/-- OutOrder$Work.canDivide(I)Z -/
def WO_canDivide (h0 : Nat) (v1 : Int32) (I : jM) (K : Int32 → Prop) : Prop :=
  WO_canDivide_2 h0 v1 (0 : Int32) I K
set_option maxRecDepth 100000 in
set_option maxHeartbeats 4000000 in
theorem s_WO_canDivide {l : Launch} {E : jE} (ok : jOK E) (hE : E.2.2.2 = jLX) {h0 : Nat} {v1 : Int32} (g_h0 : jOB E 9 h0) {I : jM} {K : Int32 → Prop} (h : WO_canDivide h0 v1 I K) : jSi l E ⟨"OutOrder$Work", "canDivide", "(I)Z"⟩ prog_12_method_9_code 3 (some .boolean) 0 0 [.ref (E.2.2.1 h0), .int v1] I (fun r I2 => I = I2 ∧ K r) := by
  refine jS_ofF (own := "OutOrder$Work") (by decide +kernel) rfl ok (Nat.le_of_ble_eq_true rfl) (fun Z _ C hr => ?_)
  show jJ Z E 3 (jQi Z E (fun r I2 => I = I2 ∧ K r)) 0 [(0, .ref (E.2.2.1 h0)), (1, .int v1)] [] I
  unfold WO_canDivide at h
  refine j_iconst C d_WO_canDivide_0 ic_0 ?_
  refine j_istore_n C d_WO_canDivide_1 rfl (by decide) (lv' := [(2, .int (0 : Int32)), (0, .ref (E.2.2.1 h0)), (1, .int v1)]) rfl ?_
  refine j_lv [1, 2, 0] rfl ?_
  exact k_WO_canDivide_2 C hr hE h0 v1 (0 : Int32) I g_h0 h
theorem d_WO_eliminate_0 : decode prog_12_method_6_code 0 = .ok (.iload_n 1, 1) := by decide +kernel
theorem d_WO_eliminate_1 : decode prog_12_method_6_code 1 = .ok (.iconst 1, 1) := by decide +kernel
theorem d_WO_eliminate_2 : decode prog_12_method_6_code 2 = .ok (.iadd, 1) := by decide +kernel
theorem d_WO_eliminate_3 : decode prog_12_method_6_code 3 = .ok (.istore 4, 2) := by decide +kernel
theorem d_WO_eliminate_5 : decode prog_12_method_6_code 5 = .ok (.iload 4, 2) := by decide +kernel
theorem d_WO_eliminate_7 : decode prog_12_method_6_code 7 = .ok (.iload_n 2, 1) := by decide +kernel
theorem d_WO_eliminate_8 : decode prog_12_method_6_code 8 = .ok (.if_icmp .ge 96, 3) := by decide +kernel
theorem d_WO_eliminate_11 : decode prog_12_method_6_code 11 = .ok (.aload_n 0, 1) := by decide +kernel
theorem d_WO_eliminate_12 : decode prog_12_method_6_code 12 = .ok (.getfield 11, 3) := by decide +kernel
theorem d_WO_eliminate_15 : decode prog_12_method_6_code 15 = .ok (.iload 4, 2) := by decide +kernel
theorem d_WO_eliminate_17 : decode prog_12_method_6_code 17 = .ok (.aaload, 1) := by decide +kernel
theorem d_WO_eliminate_18 : decode prog_12_method_6_code 18 = .ok (.iload_n 1, 1) := by decide +kernel
theorem d_WO_eliminate_19 : decode prog_12_method_6_code 19 = .ok (.iaload, 1) := by decide +kernel
theorem d_WO_eliminate_20 : decode prog_12_method_6_code 20 = .ok (.istore 5, 2) := by decide +kernel
theorem d_WO_eliminate_22 : decode prog_12_method_6_code 22 = .ok (.aload_n 0, 1) := by decide +kernel
theorem d_WO_eliminate_23 : decode prog_12_method_6_code 23 = .ok (.getfield 11, 3) := by decide +kernel
theorem d_WO_eliminate_26 : decode prog_12_method_6_code 26 = .ok (.iload 4, 2) := by decide +kernel
theorem d_WO_eliminate_28 : decode prog_12_method_6_code 28 = .ok (.aaload, 1) := by decide +kernel
theorem d_WO_eliminate_29 : decode prog_12_method_6_code 29 = .ok (.iload_n 1, 1) := by decide +kernel
theorem d_WO_eliminate_30 : decode prog_12_method_6_code 30 = .ok (.aload_n 3, 1) := by decide +kernel
theorem d_WO_eliminate_31 : decode prog_12_method_6_code 31 = .ok (.iload 5, 2) := by decide +kernel
theorem d_WO_eliminate_33 : decode prog_12_method_6_code 33 = .ok (.aload_n 0, 1) := by decide +kernel
theorem d_WO_eliminate_34 : decode prog_12_method_6_code 34 = .ok (.getfield 20, 3) := by decide +kernel
theorem d_WO_eliminate_37 : decode prog_12_method_6_code 37 = .ok (.iload_n 1, 1) := by decide +kernel
theorem d_WO_eliminate_38 : decode prog_12_method_6_code 38 = .ok (.iaload, 1) := by decide +kernel
theorem d_WO_eliminate_39 : decode prog_12_method_6_code 39 = .ok (.invokevirtual 71, 3) := by decide +kernel
theorem d_WO_eliminate_42 : decode prog_12_method_6_code 42 = .ok (.iastore, 1) := by decide +kernel
theorem d_WO_eliminate_43 : decode prog_12_method_6_code 43 = .ok (.iload_n 1, 1) := by decide +kernel
theorem d_WO_eliminate_44 : decode prog_12_method_6_code 44 = .ok (.iconst 1, 1) := by decide +kernel
theorem d_WO_eliminate_45 : decode prog_12_method_6_code 45 = .ok (.iadd, 1) := by decide +kernel
theorem d_WO_eliminate_46 : decode prog_12_method_6_code 46 = .ok (.istore 6, 2) := by decide +kernel
theorem d_WO_eliminate_48 : decode prog_12_method_6_code 48 = .ok (.iload 6, 2) := by decide +kernel
theorem d_WO_eliminate_50 : decode prog_12_method_6_code 50 = .ok (.iload 4, 2) := by decide +kernel
theorem d_WO_eliminate_52 : decode prog_12_method_6_code 52 = .ok (.if_icmp .gt 46, 3) := by decide +kernel
theorem d_WO_eliminate_55 : decode prog_12_method_6_code 55 = .ok (.aload_n 0, 1) := by decide +kernel
theorem d_WO_eliminate_56 : decode prog_12_method_6_code 56 = .ok (.getfield 11, 3) := by decide +kernel
theorem d_WO_eliminate_59 : decode prog_12_method_6_code 59 = .ok (.iload 4, 2) := by decide +kernel
theorem d_WO_eliminate_61 : decode prog_12_method_6_code 61 = .ok (.aaload, 1) := by decide +kernel
theorem d_WO_eliminate_62 : decode prog_12_method_6_code 62 = .ok (.iload 6, 2) := by decide +kernel
theorem d_WO_eliminate_64 : decode prog_12_method_6_code 64 = .ok (.aload_n 3, 1) := by decide +kernel
theorem d_WO_eliminate_65 : decode prog_12_method_6_code 65 = .ok (.aload_n 0, 1) := by decide +kernel
theorem d_WO_eliminate_66 : decode prog_12_method_6_code 66 = .ok (.getfield 11, 3) := by decide +kernel
theorem d_WO_eliminate_69 : decode prog_12_method_6_code 69 = .ok (.iload 4, 2) := by decide +kernel
theorem d_WO_eliminate_71 : decode prog_12_method_6_code 71 = .ok (.aaload, 1) := by decide +kernel
theorem d_WO_eliminate_72 : decode prog_12_method_6_code 72 = .ok (.iload 6, 2) := by decide +kernel
theorem d_WO_eliminate_74 : decode prog_12_method_6_code 74 = .ok (.iaload, 1) := by decide +kernel
theorem d_WO_eliminate_75 : decode prog_12_method_6_code 75 = .ok (.iload 5, 2) := by decide +kernel
theorem d_WO_eliminate_77 : decode prog_12_method_6_code 77 = .ok (.aload_n 0, 1) := by decide +kernel
theorem d_WO_eliminate_78 : decode prog_12_method_6_code 78 = .ok (.getfield 11, 3) := by decide +kernel
theorem d_WO_eliminate_81 : decode prog_12_method_6_code 81 = .ok (.iload 6, 2) := by decide +kernel
theorem d_WO_eliminate_83 : decode prog_12_method_6_code 83 = .ok (.aaload, 1) := by decide +kernel
theorem d_WO_eliminate_84 : decode prog_12_method_6_code 84 = .ok (.iload_n 1, 1) := by decide +kernel
theorem d_WO_eliminate_85 : decode prog_12_method_6_code 85 = .ok (.iaload, 1) := by decide +kernel
theorem d_WO_eliminate_86 : decode prog_12_method_6_code 86 = .ok (.imul, 1) := by decide +kernel
theorem d_WO_eliminate_87 : decode prog_12_method_6_code 87 = .ok (.isub, 1) := by decide +kernel
theorem d_WO_eliminate_88 : decode prog_12_method_6_code 88 = .ok (.invokevirtual 75, 3) := by decide +kernel
theorem d_WO_eliminate_91 : decode prog_12_method_6_code 91 = .ok (.iastore, 1) := by decide +kernel
theorem d_WO_eliminate_92 : decode prog_12_method_6_code 92 = .ok (.iinc 6 1, 3) := by decide +kernel
theorem d_WO_eliminate_95 : decode prog_12_method_6_code 95 = .ok (.goto (-47), 3) := by decide +kernel
theorem d_WO_eliminate_98 : decode prog_12_method_6_code 98 = .ok (.iinc 4 1, 3) := by decide +kernel
theorem d_WO_eliminate_101 : decode prog_12_method_6_code 101 = .ok (.goto (-96), 3) := by decide +kernel
theorem d_WO_eliminate_104 : decode prog_12_method_6_code 104 = .ok (.return_, 1) := by decide +kernel
def WO_eliminate_48b (h0 : Nat) (v1 : Int32) (v2 : Int32) (h3 : Nat) (v4 : Int32) (v5 : Int32) (v6 : Int32) (I : jM) (K : jM → Prop) (X5 : Int32 × jM → Prop) (X48 : Int32 × jM → Prop) : Prop :=
  ((v4 < v6 → X5 ((v4 + 1), I)) ∧ (¬ v4 < v6 → (vp_in v4 24 ∧ (vp_in v4 24 ∧ (vp_in v6 24 ∧ (vp_in v6 24 ∧ (vp_in v1 24 ∧ MO_reduce h3 ((I (jw (jr h0 0) v4.toNatClampNeg) v6.toNatClampNeg) - (v5 * (I (jw (jr h0 0) v6.toNatClampNeg) v1.toNatClampNeg))) I (fun r_4 => (vp_in v6 24 ∧ (∀ I_5 : jM, I_5 = jwr I (jw (jr h0 0) v4.toNatClampNeg) v6.toNatClampNeg r_4 → X48 ((v6 + 1), I_5)))))))))))
def WO_eliminate_48 (h0 : Nat) (v1 : Int32) (v2 : Int32) (h3 : Nat) (v4 : Int32) (v5 : Int32) (v6 : Int32) (I : jM) (K : jM → Prop) (X5 : Int32 × jM → Prop) : Prop :=
  lp (fun (X48 : Int32 × jM → Prop) (s : Int32 × jM) => WO_eliminate_48b h0 v1 v2 h3 v4 v5 s.1 s.2 K X5 X48) (v6, I)
set_option maxRecDepth 100000 in
set_option maxHeartbeats 4000000 in
theorem kb_WO_eliminate_48 {Z : jZ} {E : jE} (C : jC Z E prog_12_method_6_code 7 "OutOrder$Work" 3 65) (hr : (jZh Z).sig.returnType = none) (hE : E.2.2.2 = jLX)  (h0 : Nat) (v1 : Int32) (v2 : Int32) (h3 : Nat) (v4 : Int32) (v5 : Int32) (v6 : Int32) (I : jM) (g_h0 : jOB E 9 h0) (g_h3 : jOB E 3 h3) {K : jM → Prop} {X5 : Int32 × jM → Prop} (hX5 : ∀ s : Int32 × jM, X5 s → jJ Z E 7 (jQv Z E K) 5 [(0, .ref (E.2.2.1 h0)), (1, .int v1), (2, .int v2), (3, .ref (E.2.2.1 h3)), (4, .int s.1)] [] s.2) {X48 : Int32 × jM → Prop} (hX48 : ∀ s : Int32 × jM, X48 s → jJ Z E 7 (jQv Z E K) 48 [(0, .ref (E.2.2.1 h0)), (1, .int v1), (2, .int v2), (3, .ref (E.2.2.1 h3)), (4, .int v4), (5, .int v5), (6, .int s.1)] [] s.2) (h : WO_eliminate_48b h0 v1 v2 h3 v4 v5 v6 I K X5 X48) : jJ Z E 7 (jQv Z E K) 48 [(0, .ref (E.2.2.1 h0)), (1, .int v1), (2, .int v2), (3, .ref (E.2.2.1 h3)), (4, .int v4), (5, .int v5), (6, .int v6)] [] I := by
  unfold WO_eliminate_48b at h
  refine j_iload C d_WO_eliminate_48 6 rfl ?_
  refine j_iload C d_WO_eliminate_50 4 rfl ?_
  refine j_icmp_gt C d_WO_eliminate_52 (tgt := 98) (by decide) (fun c52 => ?_) (fun c52 => ?_)
  · have h := h.1 c52
    refine j_iinc C d_WO_eliminate_98 4 rfl (v := (v4 + 1)) rfl (by decide) (lv' := [(4, .int (v4 + 1)), (0, .ref (E.2.2.1 h0)), (1, .int v1), (2, .int v2), (3, .ref (E.2.2.1 h3)), (5, .int v5), (6, .int v6)]) rfl ?_
    refine j_goto C d_WO_eliminate_101 (tgt := 5) (by decide) ?_
    refine j_lv [1, 2, 3, 4, 0] rfl ?_
    exact hX5 ((v4 + 1), I) h
  · have h := h.2 c52
    refine j_aload_n C d_WO_eliminate_55 rfl 0 rfl ?_
    refine fg_WO_11 C g_h0 d_WO_eliminate_56 ?_
    refine j_iload C d_WO_eliminate_59 4 rfl ?_
    obtain ⟨hi_1, h⟩ := h
    refine j_aaload C (sh_WO_0 hE g_h0) hi_1 d_WO_eliminate_61 ?_
    refine j_iload C d_WO_eliminate_62 6 rfl ?_
    refine j_aload_n C d_WO_eliminate_64 rfl 3 rfl ?_
    refine j_aload_n C d_WO_eliminate_65 rfl 0 rfl ?_
    refine fg_WO_11 C g_h0 d_WO_eliminate_66 ?_
    refine j_iload C d_WO_eliminate_69 4 rfl ?_
    obtain ⟨hi_2, h⟩ := h
    refine j_aaload C (sh_WO_0 hE g_h0) hi_2 d_WO_eliminate_71 ?_
    refine j_iload C d_WO_eliminate_72 6 rfl ?_
    obtain ⟨hi, h⟩ := h
    refine j_iaload C (sr_24_24 hE (sh_WO_0 hE g_h0) hi_2) hi d_WO_eliminate_74 ?_
    refine j_iload C d_WO_eliminate_75 5 rfl ?_
    refine j_aload_n C d_WO_eliminate_77 rfl 0 rfl ?_
    refine fg_WO_11 C g_h0 d_WO_eliminate_78 ?_
    refine j_iload C d_WO_eliminate_81 6 rfl ?_
    obtain ⟨hi_3, h⟩ := h
    refine j_aaload C (sh_WO_0 hE g_h0) hi_3 d_WO_eliminate_83 ?_
    refine j_iload_n C d_WO_eliminate_84 rfl 1 rfl ?_
    obtain ⟨hi, h⟩ := h
    refine j_iaload C (sr_24_24 hE (sh_WO_0 hE g_h0) hi_3) hi d_WO_eliminate_85 ?_
    refine j_imul C d_WO_eliminate_86 ?_
    refine j_isub C d_WO_eliminate_87 ?_
    refine j_callVi (As := [.int ((I (jw (jr h0 0) v4.toNatClampNeg) v6.toNatClampNeg) - (v5 * (I (jw (jr h0 0) v6.toNatClampNeg) v1.toNatClampNeg)))]) C jcl_MO cw_WO_75 w_370 w_371 g_h3 rfl rfl (by decide) (by decide) (Nat.le_of_ble_eq_true rfl) d_WO_eliminate_88 (s_MO_reduce C.ok g_h3 h) (fun r_4 I2 h => ?_)
    obtain ⟨rfl, h⟩ := h
    obtain ⟨hi, h⟩ := h
    refine j_iastore C (sr_24_24 hE (sh_WO_0 hE g_h0) hi_1) hi d_WO_eliminate_91 ?_
    have h := h _ rfl
    generalize eI_5 : (jwr I (jw (jr h0 0) v4.toNatClampNeg) v6.toNatClampNeg r_4 : jM) = I_5 at h ⊢
    refine j_iinc C d_WO_eliminate_92 6 rfl (v := (v6 + 1)) rfl (by decide) (lv' := [(6, .int (v6 + 1)), (0, .ref (E.2.2.1 h0)), (1, .int v1), (2, .int v2), (3, .ref (E.2.2.1 h3)), (4, .int v4), (5, .int v5)]) rfl ?_
    refine j_goto C d_WO_eliminate_95 (tgt := 48) (by decide) ?_
    refine j_lv [1, 2, 3, 4, 5, 6, 0] rfl ?_
    exact hX48 ((v6 + 1), I_5) h
theorem k_WO_eliminate_48 {Z : jZ} {E : jE} (C : jC Z E prog_12_method_6_code 7 "OutOrder$Work" 3 65) (hr : (jZh Z).sig.returnType = none) (hE : E.2.2.2 = jLX)  (h0 : Nat) (v1 : Int32) (v2 : Int32) (h3 : Nat) (v4 : Int32) (v5 : Int32) (v6 : Int32) (I : jM) (g_h0 : jOB E 9 h0) (g_h3 : jOB E 3 h3) {K : jM → Prop} {X5 : Int32 × jM → Prop} (hX5 : ∀ s : Int32 × jM, X5 s → jJ Z E 7 (jQv Z E K) 5 [(0, .ref (E.2.2.1 h0)), (1, .int v1), (2, .int v2), (3, .ref (E.2.2.1 h3)), (4, .int s.1)] [] s.2) (h : WO_eliminate_48 h0 v1 v2 h3 v4 v5 v6 I K X5) : jJ Z E 7 (jQv Z E K) 48 [(0, .ref (E.2.2.1 h0)), (1, .int v1), (2, .int v2), (3, .ref (E.2.2.1 h3)), (4, .int v4), (5, .int v5), (6, .int v6)] [] I := by
  unfold WO_eliminate_48 at h
  exact h (fun s => jJ Z E 7 (jQv Z E K) 48 [(0, .ref (E.2.2.1 h0)), (1, .int v1), (2, .int v2), (3, .ref (E.2.2.1 h3)), (4, .int v4), (5, .int v5), (6, .int s.1)] [] s.2) (fun s hs => kb_WO_eliminate_48 C hr hE h0 v1 v2 h3 v4 v5 s.1 s.2 g_h0 g_h3 hX5 (fun s2 h2 => h2) hs)
def WO_eliminate_5b (h0 : Nat) (v1 : Int32) (v2 : Int32) (h3 : Nat) (v4 : Int32) (I : jM) (K : jM → Prop) (X5 : Int32 × jM → Prop) : Prop :=
  ((v2 ≤ v4 → K I) ∧ (¬ v2 ≤ v4 → (vp_in v4 24 ∧ (vp_in v1 24 ∧ (∀ v5_2 : Int32, v5_2 = (I (jw (jr h0 0) v4.toNatClampNeg) v1.toNatClampNeg) → (vp_in v4 24 ∧ (vp_in v1 24 ∧ MO_times h3 v5_2 (I (jr h0 2) v1.toNatClampNeg) I (fun r_4 => (vp_in v1 24 ∧ (∀ I_5 : jM, I_5 = jwr I (jw (jr h0 0) v4.toNatClampNeg) v1.toNatClampNeg r_4 → (∀ v6_6 : Int32, v6_6 = (v1 + (1 : Int32)) → WO_eliminate_48 h0 v1 v2 h3 v4 v5_2 v6_6 I_5 K X5)))))))))))
def WO_eliminate_5 (h0 : Nat) (v1 : Int32) (v2 : Int32) (h3 : Nat) (v4 : Int32) (I : jM) (K : jM → Prop) : Prop :=
  lp (fun (X5 : Int32 × jM → Prop) (s : Int32 × jM) => WO_eliminate_5b h0 v1 v2 h3 s.1 s.2 K X5) (v4, I)
set_option maxRecDepth 100000 in
set_option maxHeartbeats 4000000 in
theorem kb_WO_eliminate_5 {Z : jZ} {E : jE} (C : jC Z E prog_12_method_6_code 7 "OutOrder$Work" 3 65) (hr : (jZh Z).sig.returnType = none) (hE : E.2.2.2 = jLX)  (h0 : Nat) (v1 : Int32) (v2 : Int32) (h3 : Nat) (v4 : Int32) (I : jM) (g_h0 : jOB E 9 h0) (g_h3 : jOB E 3 h3) {K : jM → Prop} {X5 : Int32 × jM → Prop} (hX5 : ∀ s : Int32 × jM, X5 s → jJ Z E 7 (jQv Z E K) 5 [(0, .ref (E.2.2.1 h0)), (1, .int v1), (2, .int v2), (3, .ref (E.2.2.1 h3)), (4, .int s.1)] [] s.2) (h : WO_eliminate_5b h0 v1 v2 h3 v4 I K X5) : jJ Z E 7 (jQv Z E K) 5 [(0, .ref (E.2.2.1 h0)), (1, .int v1), (2, .int v2), (3, .ref (E.2.2.1 h3)), (4, .int v4)] [] I := by
  unfold WO_eliminate_5b at h
  refine j_iload C d_WO_eliminate_5 4 rfl ?_
  refine j_iload_n C d_WO_eliminate_7 rfl 2 rfl ?_
  refine j_icmp_ge C d_WO_eliminate_8 (tgt := 104) (by decide) (fun c8 => ?_) (fun c8 => ?_)
  · have h := h.1 c8
    exact j_vret C hr d_WO_eliminate_104 h
  · have h := h.2 c8
    refine j_aload_n C d_WO_eliminate_11 rfl 0 rfl ?_
    refine fg_WO_11 C g_h0 d_WO_eliminate_12 ?_
    refine j_iload C d_WO_eliminate_15 4 rfl ?_
    obtain ⟨hi_1, h⟩ := h
    refine j_aaload C (sh_WO_0 hE g_h0) hi_1 d_WO_eliminate_17 ?_
    refine j_iload_n C d_WO_eliminate_18 rfl 1 rfl ?_
    obtain ⟨hi, h⟩ := h
    refine j_iaload C (sr_24_24 hE (sh_WO_0 hE g_h0) hi_1) hi d_WO_eliminate_19 ?_
    refine j_topi (fun v5_2 ev5_2 => ?_)
    have h := h v5_2 ev5_2
    refine j_istore C d_WO_eliminate_20 (by decide) (lv' := [(5, .int v5_2), (0, .ref (E.2.2.1 h0)), (1, .int v1), (2, .int v2), (3, .ref (E.2.2.1 h3)), (4, .int v4)]) rfl ?_
    refine j_aload_n C d_WO_eliminate_22 rfl 1 rfl ?_
    refine fg_WO_11 C g_h0 d_WO_eliminate_23 ?_
    refine j_iload C d_WO_eliminate_26 5 rfl ?_
    obtain ⟨hi_3, h⟩ := h
    refine j_aaload C (sh_WO_0 hE g_h0) hi_3 d_WO_eliminate_28 ?_
    refine j_iload_n C d_WO_eliminate_29 rfl 2 rfl ?_
    refine j_aload_n C d_WO_eliminate_30 rfl 4 rfl ?_
    refine j_iload C d_WO_eliminate_31 0 rfl ?_
    refine j_aload_n C d_WO_eliminate_33 rfl 1 rfl ?_
    refine fg_WO_20 C g_h0 d_WO_eliminate_34 ?_
    refine j_iload_n C d_WO_eliminate_37 rfl 2 rfl ?_
    obtain ⟨hi, h⟩ := h
    refine j_iaload C (sh_WO_2 hE g_h0) hi d_WO_eliminate_38 ?_
    refine j_callVi (As := [.int v5_2, .int (I (jr h0 2) v1.toNatClampNeg)]) C jcl_MO cw_WO_71 w_634 w_635 g_h3 rfl rfl (by decide) (by decide) (Nat.le_of_ble_eq_true rfl) d_WO_eliminate_39 (s_MO_times C.ok g_h3 h) (fun r_4 I2 h => ?_)
    obtain ⟨rfl, h⟩ := h
    obtain ⟨hi, h⟩ := h
    refine j_iastore C (sr_24_24 hE (sh_WO_0 hE g_h0) hi_3) hi d_WO_eliminate_42 ?_
    have h := h _ rfl
    generalize eI_5 : (jwr I (jw (jr h0 0) v4.toNatClampNeg) v1.toNatClampNeg r_4 : jM) = I_5 at h ⊢
    refine j_iload_n C d_WO_eliminate_43 rfl 2 rfl ?_
    refine j_iconst C d_WO_eliminate_44 ic_1 ?_
    refine j_iadd C d_WO_eliminate_45 ?_
    refine j_topi (fun v6_6 ev6_6 => ?_)
    have h := h v6_6 ev6_6
    refine j_istore C d_WO_eliminate_46 (by decide) (lv' := [(6, .int v6_6), (5, .int v5_2), (0, .ref (E.2.2.1 h0)), (1, .int v1), (2, .int v2), (3, .ref (E.2.2.1 h3)), (4, .int v4)]) rfl ?_
    refine j_lv [2, 3, 4, 5, 6, 1, 0] rfl ?_
    exact k_WO_eliminate_48 C hr hE h0 v1 v2 h3 v4 v5_2 v6_6 I_5 g_h0 g_h3 hX5 h
theorem k_WO_eliminate_5 {Z : jZ} {E : jE} (C : jC Z E prog_12_method_6_code 7 "OutOrder$Work" 3 65) (hr : (jZh Z).sig.returnType = none) (hE : E.2.2.2 = jLX)  (h0 : Nat) (v1 : Int32) (v2 : Int32) (h3 : Nat) (v4 : Int32) (I : jM) (g_h0 : jOB E 9 h0) (g_h3 : jOB E 3 h3) {K : jM → Prop} (h : WO_eliminate_5 h0 v1 v2 h3 v4 I K) : jJ Z E 7 (jQv Z E K) 5 [(0, .ref (E.2.2.1 h0)), (1, .int v1), (2, .int v2), (3, .ref (E.2.2.1 h3)), (4, .int v4)] [] I := by
  unfold WO_eliminate_5 at h
  exact h (fun s => jJ Z E 7 (jQv Z E K) 5 [(0, .ref (E.2.2.1 h0)), (1, .int v1), (2, .int v2), (3, .ref (E.2.2.1 h3)), (4, .int s.1)] [] s.2) (fun s hs => kb_WO_eliminate_5 C hr hE h0 v1 v2 h3 s.1 s.2 g_h0 g_h3 (fun s2 h2 => h2) hs)
/-- OutOrder$Work.eliminate(IILOutOrder$Modulus;)V -/
def WO_eliminate (h0 : Nat) (v1 : Int32) (v2 : Int32) (h3 : Nat) (I : jM) (K : jM → Prop) : Prop :=
  (∀ v4_1 : Int32, v4_1 = (v1 + (1 : Int32)) → WO_eliminate_5 h0 v1 v2 h3 v4_1 I K)
set_option maxRecDepth 100000 in
set_option maxHeartbeats 4000000 in
theorem s_WO_eliminate {l : Launch} {E : jE} (ok : jOK E) (hE : E.2.2.2 = jLX) {h0 : Nat} {v1 : Int32} {v2 : Int32} {h3 : Nat} (g_h0 : jOB E 9 h0) (g_h3 : jOB E 3 h3) {I : jM} {K : jM → Prop} (h : WO_eliminate h0 v1 v2 h3 I K) : jSv l E ⟨"OutOrder$Work", "eliminate", "(IILOutOrder$Modulus;)V"⟩ prog_12_method_6_code 7 none 3 65 [.ref (E.2.2.1 h0), .int v1, .int v2, .ref (E.2.2.1 h3)] I K := by
  refine jS_ofF (own := "OutOrder$Work") (by decide +kernel) rfl ok (Nat.le_of_ble_eq_true rfl) (fun Z _ C hr => ?_)
  show jJ Z E 7 (jQv Z E K) 0 [(0, .ref (E.2.2.1 h0)), (1, .int v1), (2, .int v2), (3, .ref (E.2.2.1 h3))] [] I
  unfold WO_eliminate at h
  refine j_iload_n C d_WO_eliminate_0 rfl 1 rfl ?_
  refine j_iconst C d_WO_eliminate_1 ic_1 ?_
  refine j_iadd C d_WO_eliminate_2 ?_
  refine j_topi (fun v4_1 ev4_1 => ?_)
  have h := h v4_1 ev4_1
  refine j_istore C d_WO_eliminate_3 (by decide) (lv' := [(4, .int v4_1), (0, .ref (E.2.2.1 h0)), (1, .int v1), (2, .int v2), (3, .ref (E.2.2.1 h3))]) rfl ?_
  refine j_lv [1, 2, 3, 4, 0] rfl ?_
  exact k_WO_eliminate_5 C hr hE h0 v1 v2 h3 v4_1 I g_h0 g_h3 h
theorem d_WO_forget_0 : decode prog_12_method_2_code 0 = .ok (.aload_n 0, 1) := by decide +kernel
theorem d_WO_forget_1 : decode prog_12_method_2_code 1 = .ok (.iconst 0, 1) := by decide +kernel
theorem d_WO_forget_2 : decode prog_12_method_2_code 2 = .ok (.putfield 30, 3) := by decide +kernel
theorem d_WO_forget_5 : decode prog_12_method_2_code 5 = .ok (.aload_n 0, 1) := by decide +kernel
theorem d_WO_forget_6 : decode prog_12_method_2_code 6 = .ok (.iconst (-1), 1) := by decide +kernel
theorem d_WO_forget_7 : decode prog_12_method_2_code 7 = .ok (.putfield 26, 3) := by decide +kernel
theorem d_WO_forget_10 : decode prog_12_method_2_code 10 = .ok (.return_, 1) := by decide +kernel
/-- OutOrder$Work.forget()V -/
def WO_forget (h0 : Nat) (I : jM) (K : jM → Prop) : Prop :=
  (∀ I_1 : jM, I_1 = jwr I h0 4 (0 : Int32) → (∀ I_2 : jM, I_2 = jwr I_1 h0 5 (-1 : Int32) → K I_2))
set_option maxRecDepth 100000 in
set_option maxHeartbeats 4000000 in
theorem s_WO_forget {l : Launch} {E : jE} (ok : jOK E)  {h0 : Nat} (g_h0 : jOB E 9 h0) {I : jM} {K : jM → Prop} (h : WO_forget h0 I K) : jSv l E ⟨"OutOrder$Work", "forget", "()V"⟩ prog_12_method_2_code 1 none 0 0 [.ref (E.2.2.1 h0)] I K := by
  refine jS_ofF (own := "OutOrder$Work") (by decide +kernel) rfl ok (Nat.le_of_ble_eq_true rfl) (fun Z _ C hr => ?_)
  show jJ Z E 1 (jQv Z E K) 0 [(0, .ref (E.2.2.1 h0))] [] I
  unfold WO_forget at h
  refine j_aload_n C d_WO_forget_0 rfl 0 rfl ?_
  refine j_iconst C d_WO_forget_1 ic_0 ?_
  refine fp_WO_30 C g_h0 d_WO_forget_2 ?_
  have h := h _ rfl
  generalize eI_1 : (jwr I h0 4 (0 : Int32) : jM) = I_1 at h ⊢
  refine j_aload_n C d_WO_forget_5 rfl 0 rfl ?_
  refine j_iconst C d_WO_forget_6 ic_m1 ?_
  refine fp_WO_26 C g_h0 d_WO_forget_7 ?_
  have h := h _ rfl
  generalize eI_2 : (jwr I_1 h0 5 (-1 : Int32) : jM) = I_2 at h ⊢
  exact j_vret C hr d_WO_forget_10 h
theorem d_WO_hasRest_0 : decode prog_12_method_5_code 0 = .ok (.iload_n 1, 1) := by decide +kernel
theorem d_WO_hasRest_1 : decode prog_12_method_5_code 1 = .ok (.iconst 1, 1) := by decide +kernel
theorem d_WO_hasRest_2 : decode prog_12_method_5_code 2 = .ok (.iadd, 1) := by decide +kernel
theorem d_WO_hasRest_3 : decode prog_12_method_5_code 3 = .ok (.istore_n 3, 1) := by decide +kernel
theorem d_WO_hasRest_4 : decode prog_12_method_5_code 4 = .ok (.iload_n 3, 1) := by decide +kernel
theorem d_WO_hasRest_5 : decode prog_12_method_5_code 5 = .ok (.iload_n 2, 1) := by decide +kernel
theorem d_WO_hasRest_6 : decode prog_12_method_5_code 6 = .ok (.if_icmp .ge 22, 3) := by decide +kernel
theorem d_WO_hasRest_9 : decode prog_12_method_5_code 9 = .ok (.aload_n 0, 1) := by decide +kernel
theorem d_WO_hasRest_10 : decode prog_12_method_5_code 10 = .ok (.getfield 11, 3) := by decide +kernel
theorem d_WO_hasRest_13 : decode prog_12_method_5_code 13 = .ok (.iload_n 3, 1) := by decide +kernel
theorem d_WO_hasRest_14 : decode prog_12_method_5_code 14 = .ok (.aaload, 1) := by decide +kernel
theorem d_WO_hasRest_15 : decode prog_12_method_5_code 15 = .ok (.iload_n 1, 1) := by decide +kernel
theorem d_WO_hasRest_16 : decode prog_12_method_5_code 16 = .ok (.iaload, 1) := by decide +kernel
theorem d_WO_hasRest_17 : decode prog_12_method_5_code 17 = .ok (.ifCond .eq 5, 3) := by decide +kernel
theorem d_WO_hasRest_20 : decode prog_12_method_5_code 20 = .ok (.iconst 1, 1) := by decide +kernel
theorem d_WO_hasRest_21 : decode prog_12_method_5_code 21 = .ok (.ireturn, 1) := by decide +kernel
theorem d_WO_hasRest_22 : decode prog_12_method_5_code 22 = .ok (.iinc 3 1, 3) := by decide +kernel
theorem d_WO_hasRest_25 : decode prog_12_method_5_code 25 = .ok (.goto (-21), 3) := by decide +kernel
theorem d_WO_hasRest_28 : decode prog_12_method_5_code 28 = .ok (.iconst 0, 1) := by decide +kernel
theorem d_WO_hasRest_29 : decode prog_12_method_5_code 29 = .ok (.ireturn, 1) := by decide +kernel
def WO_hasRest_4b (h0 : Nat) (v1 : Int32) (v2 : Int32) (v3 : Int32) (I : jM) (K : Int32 → Prop) (X4 : Int32 → Prop) : Prop :=
  ((v2 ≤ v3 → K (0 : Int32)) ∧ (¬ v2 ≤ v3 → (vp_in v3 24 ∧ (vp_in v1 24 ∧ (((I (jw (jr h0 0) v3.toNatClampNeg) v1.toNatClampNeg) = 0 → X4 (v3 + 1)) ∧ (¬ (I (jw (jr h0 0) v3.toNatClampNeg) v1.toNatClampNeg) = 0 → K (1 : Int32)))))))
def WO_hasRest_4 (h0 : Nat) (v1 : Int32) (v2 : Int32) (v3 : Int32) (I : jM) (K : Int32 → Prop) : Prop :=
  lp (fun (X4 : Int32 → Prop) (s : Int32) => WO_hasRest_4b h0 v1 v2 s I K X4) v3
set_option maxRecDepth 100000 in
set_option maxHeartbeats 4000000 in
theorem kb_WO_hasRest_4 {Z : jZ} {E : jE} (C : jC Z E prog_12_method_5_code 4 "OutOrder$Work" 0 0) (hr : (jZh Z).sig.returnType = (some .boolean)) (hE : E.2.2.2 = jLX)  (h0 : Nat) (v1 : Int32) (v2 : Int32) (v3 : Int32) (I : jM) (g_h0 : jOB E 9 h0) {K : Int32 → Prop} {X4 : Int32 → Prop} (hX4 : ∀ s : Int32, X4 s → jJ Z E 4 (jQi Z E (fun r I2 => I = I2 ∧ K r)) 4 [(0, .ref (E.2.2.1 h0)), (1, .int v1), (2, .int v2), (3, .int s)] [] I) (h : WO_hasRest_4b h0 v1 v2 v3 I K X4) : jJ Z E 4 (jQi Z E (fun r I2 => I = I2 ∧ K r)) 4 [(0, .ref (E.2.2.1 h0)), (1, .int v1), (2, .int v2), (3, .int v3)] [] I := by
  unfold WO_hasRest_4b at h
  refine j_iload_n C d_WO_hasRest_4 rfl 3 rfl ?_
  refine j_iload_n C d_WO_hasRest_5 rfl 2 rfl ?_
  refine j_icmp_ge C d_WO_hasRest_6 (tgt := 28) (by decide) (fun c6 => ?_) (fun c6 => ?_)
  · have h := h.1 c6
    refine j_iconst C d_WO_hasRest_28 ic_0 ?_
    exact j_zret C hr (by decide) d_WO_hasRest_29 ⟨rfl, h⟩
  · have h := h.2 c6
    refine j_aload_n C d_WO_hasRest_9 rfl 0 rfl ?_
    refine fg_WO_11 C g_h0 d_WO_hasRest_10 ?_
    refine j_iload_n C d_WO_hasRest_13 rfl 3 rfl ?_
    obtain ⟨hi_1, h⟩ := h
    refine j_aaload C (sh_WO_0 hE g_h0) hi_1 d_WO_hasRest_14 ?_
    refine j_iload_n C d_WO_hasRest_15 rfl 1 rfl ?_
    obtain ⟨hi, h⟩ := h
    refine j_iaload C (sr_24_24 hE (sh_WO_0 hE g_h0) hi_1) hi d_WO_hasRest_16 ?_
    refine j_if_eq C d_WO_hasRest_17 (tgt := 22) (by decide) (fun c17 => ?_) (fun c17 => ?_)
    · have h := h.1 c17
      refine j_iinc C d_WO_hasRest_22 3 rfl (v := (v3 + 1)) rfl (by decide) (lv' := [(3, .int (v3 + 1)), (0, .ref (E.2.2.1 h0)), (1, .int v1), (2, .int v2)]) rfl ?_
      refine j_goto C d_WO_hasRest_25 (tgt := 4) (by decide) ?_
      refine j_lv [1, 2, 3, 0] rfl ?_
      exact hX4 (v3 + 1) h
    · have h := h.2 c17
      refine j_iconst C d_WO_hasRest_20 ic_1 ?_
      exact j_zret C hr (by decide) d_WO_hasRest_21 ⟨rfl, h⟩
theorem k_WO_hasRest_4 {Z : jZ} {E : jE} (C : jC Z E prog_12_method_5_code 4 "OutOrder$Work" 0 0) (hr : (jZh Z).sig.returnType = (some .boolean)) (hE : E.2.2.2 = jLX)  (h0 : Nat) (v1 : Int32) (v2 : Int32) (v3 : Int32) (I : jM) (g_h0 : jOB E 9 h0) {K : Int32 → Prop} (h : WO_hasRest_4 h0 v1 v2 v3 I K) : jJ Z E 4 (jQi Z E (fun r I2 => I = I2 ∧ K r)) 4 [(0, .ref (E.2.2.1 h0)), (1, .int v1), (2, .int v2), (3, .int v3)] [] I := by
  unfold WO_hasRest_4 at h
  exact h (fun s => jJ Z E 4 (jQi Z E (fun r I2 => I = I2 ∧ K r)) 4 [(0, .ref (E.2.2.1 h0)), (1, .int v1), (2, .int v2), (3, .int s)] [] I) (fun s hs => kb_WO_hasRest_4 C hr hE h0 v1 v2 s I g_h0 (fun s2 h2 => h2) hs)
/-- OutOrder$Work.hasRest(II)Z -/
def WO_hasRest (h0 : Nat) (v1 : Int32) (v2 : Int32) (I : jM) (K : Int32 → Prop) : Prop :=
  (∀ v3_1 : Int32, v3_1 = (v1 + (1 : Int32)) → WO_hasRest_4 h0 v1 v2 v3_1 I K)
set_option maxRecDepth 100000 in
set_option maxHeartbeats 4000000 in
theorem s_WO_hasRest {l : Launch} {E : jE} (ok : jOK E) (hE : E.2.2.2 = jLX) {h0 : Nat} {v1 : Int32} {v2 : Int32} (g_h0 : jOB E 9 h0) {I : jM} {K : Int32 → Prop} (h : WO_hasRest h0 v1 v2 I K) : jSi l E ⟨"OutOrder$Work", "hasRest", "(II)Z"⟩ prog_12_method_5_code 4 (some .boolean) 0 0 [.ref (E.2.2.1 h0), .int v1, .int v2] I (fun r I2 => I = I2 ∧ K r) := by
  refine jS_ofF (own := "OutOrder$Work") (by decide +kernel) rfl ok (Nat.le_of_ble_eq_true rfl) (fun Z _ C hr => ?_)
  show jJ Z E 4 (jQi Z E (fun r I2 => I = I2 ∧ K r)) 0 [(0, .ref (E.2.2.1 h0)), (1, .int v1), (2, .int v2)] [] I
  unfold WO_hasRest at h
  refine j_iload_n C d_WO_hasRest_0 rfl 1 rfl ?_
  refine j_iconst C d_WO_hasRest_1 ic_1 ?_
  refine j_iadd C d_WO_hasRest_2 ?_
  refine j_topi (fun v3_1 ev3_1 => ?_)
  have h := h v3_1 ev3_1
  refine j_istore_n C d_WO_hasRest_3 rfl (by decide) (lv' := [(3, .int v3_1), (0, .ref (E.2.2.1 h0)), (1, .int v1), (2, .int v2)]) rfl ?_
  refine j_lv [1, 2, 3, 0] rfl ?_
  exact k_WO_hasRest_4 C hr hE h0 v1 v2 v3_1 I g_h0 h
theorem d_WO_product_0 : decode prog_12_method_8_code 0 = .ok (.iconst 1, 1) := by decide +kernel
theorem d_WO_product_1 : decode prog_12_method_8_code 1 = .ok (.istore_n 2, 1) := by decide +kernel
theorem d_WO_product_2 : decode prog_12_method_8_code 2 = .ok (.iconst 0, 1) := by decide +kernel
theorem d_WO_product_3 : decode prog_12_method_8_code 3 = .ok (.istore_n 3, 1) := by decide +kernel
theorem d_WO_product_4 : decode prog_12_method_8_code 4 = .ok (.iload_n 3, 1) := by decide +kernel
theorem d_WO_product_5 : decode prog_12_method_8_code 5 = .ok (.aload_n 1, 1) := by decide +kernel
theorem d_WO_product_6 : decode prog_12_method_8_code 6 = .ok (.getfield 40, 3) := by decide +kernel
theorem d_WO_product_9 : decode prog_12_method_8_code 9 = .ok (.if_icmp .ge 24, 3) := by decide +kernel
theorem d_WO_product_12 : decode prog_12_method_8_code 12 = .ok (.aload_n 1, 1) := by decide +kernel
theorem d_WO_product_13 : decode prog_12_method_8_code 13 = .ok (.getfield 45, 3) := by decide +kernel
theorem d_WO_product_16 : decode prog_12_method_8_code 16 = .ok (.iload_n 2, 1) := by decide +kernel
theorem d_WO_product_17 : decode prog_12_method_8_code 17 = .ok (.aload_n 0, 1) := by decide +kernel
theorem d_WO_product_18 : decode prog_12_method_8_code 18 = .ok (.getfield 16, 3) := by decide +kernel
theorem d_WO_product_21 : decode prog_12_method_8_code 21 = .ok (.iload_n 3, 1) := by decide +kernel
theorem d_WO_product_22 : decode prog_12_method_8_code 22 = .ok (.iaload, 1) := by decide +kernel
theorem d_WO_product_23 : decode prog_12_method_8_code 23 = .ok (.invokevirtual 71, 3) := by decide +kernel
theorem d_WO_product_26 : decode prog_12_method_8_code 26 = .ok (.istore_n 2, 1) := by decide +kernel
theorem d_WO_product_27 : decode prog_12_method_8_code 27 = .ok (.iinc 3 1, 3) := by decide +kernel
theorem d_WO_product_30 : decode prog_12_method_8_code 30 = .ok (.goto (-26), 3) := by decide +kernel
theorem d_WO_product_33 : decode prog_12_method_8_code 33 = .ok (.iload_n 2, 1) := by decide +kernel
theorem d_WO_product_34 : decode prog_12_method_8_code 34 = .ok (.ireturn, 1) := by decide +kernel
def WO_product_4b (h0 : Nat) (h1 : Nat) (v2 : Int32) (v3 : Int32) (I : jM) (K : Int32 → Prop) (X4 : Int32 × Int32 → Prop) : Prop :=
  (((I h1 4) ≤ v3 → K v2) ∧ (¬ (I h1 4) ≤ v3 → (vp_in v3 24 ∧ MO_times (jr h1 0) v2 (I (jr h0 1) v3.toNatClampNeg) I (fun r_1 => X4 (r_1, (v3 + 1))))))
def WO_product_4 (h0 : Nat) (h1 : Nat) (v2 : Int32) (v3 : Int32) (I : jM) (K : Int32 → Prop) : Prop :=
  lp (fun (X4 : Int32 × Int32 → Prop) (s : Int32 × Int32) => WO_product_4b h0 h1 s.1 s.2 I K X4) (v2, v3)
set_option maxRecDepth 100000 in
set_option maxHeartbeats 4000000 in
theorem kb_WO_product_4 {Z : jZ} {E : jE} (C : jC Z E prog_12_method_8_code 4 "OutOrder$Work" 3 65) (hr : (jZh Z).sig.returnType = (some .int)) (hE : E.2.2.2 = jLX)  (h0 : Nat) (h1 : Nat) (v2 : Int32) (v3 : Int32) (I : jM) (g_h0 : jOB E 9 h0) (g_h1 : jOB E 8 h1) {K : Int32 → Prop} {X4 : Int32 × Int32 → Prop} (hX4 : ∀ s : Int32 × Int32, X4 s → jJ Z E 4 (jQi Z E (fun r I2 => I = I2 ∧ K r)) 4 [(0, .ref (E.2.2.1 h0)), (1, .ref (E.2.2.1 h1)), (2, .int s.1), (3, .int s.2)] [] I) (h : WO_product_4b h0 h1 v2 v3 I K X4) : jJ Z E 4 (jQi Z E (fun r I2 => I = I2 ∧ K r)) 4 [(0, .ref (E.2.2.1 h0)), (1, .ref (E.2.2.1 h1)), (2, .int v2), (3, .int v3)] [] I := by
  unfold WO_product_4b at h
  refine j_iload_n C d_WO_product_4 rfl 3 rfl ?_
  refine j_aload_n C d_WO_product_5 rfl 1 rfl ?_
  refine fg_WO_40 C g_h1 d_WO_product_6 ?_
  refine j_icmp_ge C d_WO_product_9 (tgt := 33) (by decide) (fun c9 => ?_) (fun c9 => ?_)
  · have h := h.1 c9
    refine j_iload_n C d_WO_product_33 rfl 2 rfl ?_
    exact j_iret C hr d_WO_product_34 ⟨rfl, h⟩
  · have h := h.2 c9
    refine j_aload_n C d_WO_product_12 rfl 1 rfl ?_
    refine fg_WO_45 C g_h1 d_WO_product_13 ?_
    refine j_iload_n C d_WO_product_16 rfl 2 rfl ?_
    refine j_aload_n C d_WO_product_17 rfl 0 rfl ?_
    refine fg_WO_16 C g_h0 d_WO_product_18 ?_
    refine j_iload_n C d_WO_product_21 rfl 3 rfl ?_
    obtain ⟨hi, h⟩ := h
    refine j_iaload C (sh_WO_1 hE g_h0) hi d_WO_product_22 ?_
    refine j_callVi (As := [.int v2, .int (I (jr h0 1) v3.toNatClampNeg)]) C jcl_MO cw_WO_71 w_634 w_635 (sh_TA_0 hE g_h1) rfl rfl (by decide) (by decide) (Nat.le_of_ble_eq_true rfl) d_WO_product_23 (s_MO_times C.ok (sh_TA_0 hE g_h1) h) (fun r_1 I2 h => ?_)
    obtain ⟨rfl, h⟩ := h
    refine j_istore_n C d_WO_product_26 rfl (by decide) (lv' := [(2, .int r_1), (0, .ref (E.2.2.1 h0)), (1, .ref (E.2.2.1 h1)), (3, .int v3)]) rfl ?_
    refine j_iinc C d_WO_product_27 3 rfl (v := (v3 + 1)) rfl (by decide) (lv' := [(3, .int (v3 + 1)), (2, .int r_1), (0, .ref (E.2.2.1 h0)), (1, .ref (E.2.2.1 h1))]) rfl ?_
    refine j_goto C d_WO_product_30 (tgt := 4) (by decide) ?_
    refine j_lv [2, 3, 1, 0] rfl ?_
    exact hX4 (r_1, (v3 + 1)) h
theorem k_WO_product_4 {Z : jZ} {E : jE} (C : jC Z E prog_12_method_8_code 4 "OutOrder$Work" 3 65) (hr : (jZh Z).sig.returnType = (some .int)) (hE : E.2.2.2 = jLX)  (h0 : Nat) (h1 : Nat) (v2 : Int32) (v3 : Int32) (I : jM) (g_h0 : jOB E 9 h0) (g_h1 : jOB E 8 h1) {K : Int32 → Prop} (h : WO_product_4 h0 h1 v2 v3 I K) : jJ Z E 4 (jQi Z E (fun r I2 => I = I2 ∧ K r)) 4 [(0, .ref (E.2.2.1 h0)), (1, .ref (E.2.2.1 h1)), (2, .int v2), (3, .int v3)] [] I := by
  unfold WO_product_4 at h
  exact h (fun s => jJ Z E 4 (jQi Z E (fun r I2 => I = I2 ∧ K r)) 4 [(0, .ref (E.2.2.1 h0)), (1, .ref (E.2.2.1 h1)), (2, .int s.1), (3, .int s.2)] [] I) (fun s hs => kb_WO_product_4 C hr hE h0 h1 s.1 s.2 I g_h0 g_h1 (fun s2 h2 => h2) hs)
/-- OutOrder$Work.product(LOutOrder$Table;)I -/
def WO_product (h0 : Nat) (h1 : Nat) (I : jM) (K : Int32 → Prop) : Prop :=
  WO_product_4 h0 h1 (1 : Int32) (0 : Int32) I K
set_option maxRecDepth 100000 in
set_option maxHeartbeats 4000000 in
theorem s_WO_product {l : Launch} {E : jE} (ok : jOK E) (hE : E.2.2.2 = jLX) {h0 : Nat} {h1 : Nat} (g_h0 : jOB E 9 h0) (g_h1 : jOB E 8 h1) {I : jM} {K : Int32 → Prop} (h : WO_product h0 h1 I K) : jSi l E ⟨"OutOrder$Work", "product", "(LOutOrder$Table;)I"⟩ prog_12_method_8_code 4 (some .int) 3 65 [.ref (E.2.2.1 h0), .ref (E.2.2.1 h1)] I (fun r I2 => I = I2 ∧ K r) := by
  refine jS_ofF (own := "OutOrder$Work") (by decide +kernel) rfl ok (Nat.le_of_ble_eq_true rfl) (fun Z _ C hr => ?_)
  show jJ Z E 4 (jQi Z E (fun r I2 => I = I2 ∧ K r)) 0 [(0, .ref (E.2.2.1 h0)), (1, .ref (E.2.2.1 h1))] [] I
  unfold WO_product at h
  refine j_iconst C d_WO_product_0 ic_1 ?_
  refine j_istore_n C d_WO_product_1 rfl (by decide) (lv' := [(2, .int (1 : Int32)), (0, .ref (E.2.2.1 h0)), (1, .ref (E.2.2.1 h1))]) rfl ?_
  refine j_iconst C d_WO_product_2 ic_0 ?_
  refine j_istore_n C d_WO_product_3 rfl (by decide) (lv' := [(3, .int (0 : Int32)), (2, .int (1 : Int32)), (0, .ref (E.2.2.1 h0)), (1, .ref (E.2.2.1 h1))]) rfl ?_
  refine j_lv [2, 3, 1, 0] rfl ?_
  exact k_WO_product_4 C hr hE h0 h1 (1 : Int32) (0 : Int32) I g_h0 g_h1 h
theorem d_WO_takeNumbers_0 : decode prog_12_method_4_code 0 = .ok (.iconst 0, 1) := by decide +kernel
theorem d_WO_takeNumbers_1 : decode prog_12_method_4_code 1 = .ok (.istore_n 3, 1) := by decide +kernel
theorem d_WO_takeNumbers_2 : decode prog_12_method_4_code 2 = .ok (.iload_n 3, 1) := by decide +kernel
theorem d_WO_takeNumbers_3 : decode prog_12_method_4_code 3 = .ok (.aload_n 1, 1) := by decide +kernel
theorem d_WO_takeNumbers_4 : decode prog_12_method_4_code 4 = .ok (.getfield 40, 3) := by decide +kernel
theorem d_WO_takeNumbers_7 : decode prog_12_method_4_code 7 = .ok (.if_icmp .ge 52, 3) := by decide +kernel
theorem d_WO_takeNumbers_10 : decode prog_12_method_4_code 10 = .ok (.iconst 0, 1) := by decide +kernel
theorem d_WO_takeNumbers_11 : decode prog_12_method_4_code 11 = .ok (.istore 4, 2) := by decide +kernel
theorem d_WO_takeNumbers_13 : decode prog_12_method_4_code 13 = .ok (.iload 4, 2) := by decide +kernel
theorem d_WO_takeNumbers_15 : decode prog_12_method_4_code 15 = .ok (.iload_n 3, 1) := by decide +kernel
theorem d_WO_takeNumbers_16 : decode prog_12_method_4_code 16 = .ok (.if_icmp .gt 37, 3) := by decide +kernel
theorem d_WO_takeNumbers_19 : decode prog_12_method_4_code 19 = .ok (.aload_n 0, 1) := by decide +kernel
theorem d_WO_takeNumbers_20 : decode prog_12_method_4_code 20 = .ok (.getfield 11, 3) := by decide +kernel
theorem d_WO_takeNumbers_23 : decode prog_12_method_4_code 23 = .ok (.iload_n 3, 1) := by decide +kernel
theorem d_WO_takeNumbers_24 : decode prog_12_method_4_code 24 = .ok (.aaload, 1) := by decide +kernel
theorem d_WO_takeNumbers_25 : decode prog_12_method_4_code 25 = .ok (.iload 4, 2) := by decide +kernel
theorem d_WO_takeNumbers_27 : decode prog_12_method_4_code 27 = .ok (.aload_n 1, 1) := by decide +kernel
theorem d_WO_takeNumbers_28 : decode prog_12_method_4_code 28 = .ok (.getfield 63, 3) := by decide +kernel
theorem d_WO_takeNumbers_31 : decode prog_12_method_4_code 31 = .ok (.aload_n 2, 1) := by decide +kernel
theorem d_WO_takeNumbers_32 : decode prog_12_method_4_code 32 = .ok (.getfield 66, 3) := by decide +kernel
theorem d_WO_takeNumbers_35 : decode prog_12_method_4_code 35 = .ok (.iload_n 3, 1) := by decide +kernel
theorem d_WO_takeNumbers_36 : decode prog_12_method_4_code 36 = .ok (.iaload, 1) := by decide +kernel
theorem d_WO_takeNumbers_37 : decode prog_12_method_4_code 37 = .ok (.aaload, 1) := by decide +kernel
theorem d_WO_takeNumbers_38 : decode prog_12_method_4_code 38 = .ok (.aload_n 2, 1) := by decide +kernel
theorem d_WO_takeNumbers_39 : decode prog_12_method_4_code 39 = .ok (.getfield 66, 3) := by decide +kernel
theorem d_WO_takeNumbers_42 : decode prog_12_method_4_code 42 = .ok (.iload 4, 2) := by decide +kernel
theorem d_WO_takeNumbers_44 : decode prog_12_method_4_code 44 = .ok (.iaload, 1) := by decide +kernel
theorem d_WO_takeNumbers_45 : decode prog_12_method_4_code 45 = .ok (.iaload, 1) := by decide +kernel
theorem d_WO_takeNumbers_46 : decode prog_12_method_4_code 46 = .ok (.iastore, 1) := by decide +kernel
theorem d_WO_takeNumbers_47 : decode prog_12_method_4_code 47 = .ok (.iinc 4 1, 3) := by decide +kernel
theorem d_WO_takeNumbers_50 : decode prog_12_method_4_code 50 = .ok (.goto (-37), 3) := by decide +kernel
theorem d_WO_takeNumbers_53 : decode prog_12_method_4_code 53 = .ok (.iinc 3 1, 3) := by decide +kernel
theorem d_WO_takeNumbers_56 : decode prog_12_method_4_code 56 = .ok (.goto (-54), 3) := by decide +kernel
theorem d_WO_takeNumbers_59 : decode prog_12_method_4_code 59 = .ok (.return_, 1) := by decide +kernel
def WO_takeNumbers_13b (h0 : Nat) (h1 : Nat) (h2 : Nat) (v3 : Int32) (v4 : Int32) (I : jM) (K : jM → Prop) (X2 : Int32 × jM → Prop) (X13 : Int32 × jM → Prop) : Prop :=
  ((v3 < v4 → X2 ((v3 + 1), I)) ∧ (¬ v3 < v4 → (vp_in v3 24 ∧ (vp_in v3 24 ∧ (vp_in (I (jr h2 0) v3.toNatClampNeg) 24 ∧ (vp_in v4 24 ∧ (vp_in (I (jr h2 0) v4.toNatClampNeg) 24 ∧ (vp_in v4 24 ∧ (∀ I_3 : jM, I_3 = jwr I (jw (jr h0 0) v3.toNatClampNeg) v4.toNatClampNeg (I (jw (jr h1 1) (I (jr h2 0) v3.toNatClampNeg).toNatClampNeg) (I (jr h2 0) v4.toNatClampNeg).toNatClampNeg) → X13 ((v4 + 1), I_3))))))))))
def WO_takeNumbers_13 (h0 : Nat) (h1 : Nat) (h2 : Nat) (v3 : Int32) (v4 : Int32) (I : jM) (K : jM → Prop) (X2 : Int32 × jM → Prop) : Prop :=
  lp (fun (X13 : Int32 × jM → Prop) (s : Int32 × jM) => WO_takeNumbers_13b h0 h1 h2 v3 s.1 s.2 K X2 X13) (v4, I)
set_option maxRecDepth 100000 in
set_option maxHeartbeats 4000000 in
theorem kb_WO_takeNumbers_13 {Z : jZ} {E : jE} (C : jC Z E prog_12_method_4_code 5 "OutOrder$Work" 0 0) (hr : (jZh Z).sig.returnType = none) (hE : E.2.2.2 = jLX)  (h0 : Nat) (h1 : Nat) (h2 : Nat) (v3 : Int32) (v4 : Int32) (I : jM) (g_h0 : jOB E 9 h0) (g_h1 : jOB E 8 h1) (g_h2 : jOB E 6 h2) {K : jM → Prop} {X2 : Int32 × jM → Prop} (hX2 : ∀ s : Int32 × jM, X2 s → jJ Z E 5 (jQv Z E K) 2 [(0, .ref (E.2.2.1 h0)), (1, .ref (E.2.2.1 h1)), (2, .ref (E.2.2.1 h2)), (3, .int s.1)] [] s.2) {X13 : Int32 × jM → Prop} (hX13 : ∀ s : Int32 × jM, X13 s → jJ Z E 5 (jQv Z E K) 13 [(0, .ref (E.2.2.1 h0)), (1, .ref (E.2.2.1 h1)), (2, .ref (E.2.2.1 h2)), (3, .int v3), (4, .int s.1)] [] s.2) (h : WO_takeNumbers_13b h0 h1 h2 v3 v4 I K X2 X13) : jJ Z E 5 (jQv Z E K) 13 [(0, .ref (E.2.2.1 h0)), (1, .ref (E.2.2.1 h1)), (2, .ref (E.2.2.1 h2)), (3, .int v3), (4, .int v4)] [] I := by
  unfold WO_takeNumbers_13b at h
  refine j_iload C d_WO_takeNumbers_13 4 rfl ?_
  refine j_iload_n C d_WO_takeNumbers_15 rfl 3 rfl ?_
  refine j_icmp_gt C d_WO_takeNumbers_16 (tgt := 53) (by decide) (fun c16 => ?_) (fun c16 => ?_)
  · have h := h.1 c16
    refine j_iinc C d_WO_takeNumbers_53 3 rfl (v := (v3 + 1)) rfl (by decide) (lv' := [(3, .int (v3 + 1)), (0, .ref (E.2.2.1 h0)), (1, .ref (E.2.2.1 h1)), (2, .ref (E.2.2.1 h2)), (4, .int v4)]) rfl ?_
    refine j_goto C d_WO_takeNumbers_56 (tgt := 2) (by decide) ?_
    refine j_lv [1, 2, 3, 0] rfl ?_
    exact hX2 ((v3 + 1), I) h
  · have h := h.2 c16
    refine j_aload_n C d_WO_takeNumbers_19 rfl 0 rfl ?_
    refine fg_WO_11 C g_h0 d_WO_takeNumbers_20 ?_
    refine j_iload_n C d_WO_takeNumbers_23 rfl 3 rfl ?_
    obtain ⟨hi_1, h⟩ := h
    refine j_aaload C (sh_WO_0 hE g_h0) hi_1 d_WO_takeNumbers_24 ?_
    refine j_iload C d_WO_takeNumbers_25 4 rfl ?_
    refine j_aload_n C d_WO_takeNumbers_27 rfl 1 rfl ?_
    refine fg_WO_63 C g_h1 d_WO_takeNumbers_28 ?_
    refine j_aload_n C d_WO_takeNumbers_31 rfl 2 rfl ?_
    refine fg_WO_66 C g_h2 d_WO_takeNumbers_32 ?_
    refine j_iload_n C d_WO_takeNumbers_35 rfl 3 rfl ?_
    obtain ⟨hi, h⟩ := h
    refine j_iaload C (sh_RO_0 hE g_h2) hi d_WO_takeNumbers_36 ?_
    obtain ⟨hi_2, h⟩ := h
    refine j_aaload C (sh_TA_1 hE g_h1) hi_2 d_WO_takeNumbers_37 ?_
    refine j_aload_n C d_WO_takeNumbers_38 rfl 2 rfl ?_
    refine fg_WO_66 C g_h2 d_WO_takeNumbers_39 ?_
    refine j_iload C d_WO_takeNumbers_42 4 rfl ?_
    obtain ⟨hi, h⟩ := h
    refine j_iaload C (sh_RO_0 hE g_h2) hi d_WO_takeNumbers_44 ?_
    obtain ⟨hi, h⟩ := h
    refine j_iaload C (sr_24_24 hE (sh_TA_1 hE g_h1) hi_2) hi d_WO_takeNumbers_45 ?_
    obtain ⟨hi, h⟩ := h
    refine j_iastore C (sr_24_24 hE (sh_WO_0 hE g_h0) hi_1) hi d_WO_takeNumbers_46 ?_
    have h := h _ rfl
    generalize eI_3 : (jwr I (jw (jr h0 0) v3.toNatClampNeg) v4.toNatClampNeg (I (jw (jr h1 1) (I (jr h2 0) v3.toNatClampNeg).toNatClampNeg) (I (jr h2 0) v4.toNatClampNeg).toNatClampNeg) : jM) = I_3 at h ⊢
    refine j_iinc C d_WO_takeNumbers_47 4 rfl (v := (v4 + 1)) rfl (by decide) (lv' := [(4, .int (v4 + 1)), (0, .ref (E.2.2.1 h0)), (1, .ref (E.2.2.1 h1)), (2, .ref (E.2.2.1 h2)), (3, .int v3)]) rfl ?_
    refine j_goto C d_WO_takeNumbers_50 (tgt := 13) (by decide) ?_
    refine j_lv [1, 2, 3, 4, 0] rfl ?_
    exact hX13 ((v4 + 1), I_3) h
theorem k_WO_takeNumbers_13 {Z : jZ} {E : jE} (C : jC Z E prog_12_method_4_code 5 "OutOrder$Work" 0 0) (hr : (jZh Z).sig.returnType = none) (hE : E.2.2.2 = jLX)  (h0 : Nat) (h1 : Nat) (h2 : Nat) (v3 : Int32) (v4 : Int32) (I : jM) (g_h0 : jOB E 9 h0) (g_h1 : jOB E 8 h1) (g_h2 : jOB E 6 h2) {K : jM → Prop} {X2 : Int32 × jM → Prop} (hX2 : ∀ s : Int32 × jM, X2 s → jJ Z E 5 (jQv Z E K) 2 [(0, .ref (E.2.2.1 h0)), (1, .ref (E.2.2.1 h1)), (2, .ref (E.2.2.1 h2)), (3, .int s.1)] [] s.2) (h : WO_takeNumbers_13 h0 h1 h2 v3 v4 I K X2) : jJ Z E 5 (jQv Z E K) 13 [(0, .ref (E.2.2.1 h0)), (1, .ref (E.2.2.1 h1)), (2, .ref (E.2.2.1 h2)), (3, .int v3), (4, .int v4)] [] I := by
  unfold WO_takeNumbers_13 at h
  exact h (fun s => jJ Z E 5 (jQv Z E K) 13 [(0, .ref (E.2.2.1 h0)), (1, .ref (E.2.2.1 h1)), (2, .ref (E.2.2.1 h2)), (3, .int v3), (4, .int s.1)] [] s.2) (fun s hs => kb_WO_takeNumbers_13 C hr hE h0 h1 h2 v3 s.1 s.2 g_h0 g_h1 g_h2 hX2 (fun s2 h2 => h2) hs)
def WO_takeNumbers_2b (h0 : Nat) (h1 : Nat) (h2 : Nat) (v3 : Int32) (I : jM) (K : jM → Prop) (X2 : Int32 × jM → Prop) : Prop :=
  (((I h1 4) ≤ v3 → K I) ∧ (¬ (I h1 4) ≤ v3 → WO_takeNumbers_13 h0 h1 h2 v3 (0 : Int32) I K X2))
def WO_takeNumbers_2 (h0 : Nat) (h1 : Nat) (h2 : Nat) (v3 : Int32) (I : jM) (K : jM → Prop) : Prop :=
  lp (fun (X2 : Int32 × jM → Prop) (s : Int32 × jM) => WO_takeNumbers_2b h0 h1 h2 s.1 s.2 K X2) (v3, I)
set_option maxRecDepth 100000 in
set_option maxHeartbeats 4000000 in
theorem kb_WO_takeNumbers_2 {Z : jZ} {E : jE} (C : jC Z E prog_12_method_4_code 5 "OutOrder$Work" 0 0) (hr : (jZh Z).sig.returnType = none) (hE : E.2.2.2 = jLX)  (h0 : Nat) (h1 : Nat) (h2 : Nat) (v3 : Int32) (I : jM) (g_h0 : jOB E 9 h0) (g_h1 : jOB E 8 h1) (g_h2 : jOB E 6 h2) {K : jM → Prop} {X2 : Int32 × jM → Prop} (hX2 : ∀ s : Int32 × jM, X2 s → jJ Z E 5 (jQv Z E K) 2 [(0, .ref (E.2.2.1 h0)), (1, .ref (E.2.2.1 h1)), (2, .ref (E.2.2.1 h2)), (3, .int s.1)] [] s.2) (h : WO_takeNumbers_2b h0 h1 h2 v3 I K X2) : jJ Z E 5 (jQv Z E K) 2 [(0, .ref (E.2.2.1 h0)), (1, .ref (E.2.2.1 h1)), (2, .ref (E.2.2.1 h2)), (3, .int v3)] [] I := by
  unfold WO_takeNumbers_2b at h
  refine j_iload_n C d_WO_takeNumbers_2 rfl 3 rfl ?_
  refine j_aload_n C d_WO_takeNumbers_3 rfl 1 rfl ?_
  refine fg_WO_40 C g_h1 d_WO_takeNumbers_4 ?_
  refine j_icmp_ge C d_WO_takeNumbers_7 (tgt := 59) (by decide) (fun c7 => ?_) (fun c7 => ?_)
  · have h := h.1 c7
    exact j_vret C hr d_WO_takeNumbers_59 h
  · have h := h.2 c7
    refine j_iconst C d_WO_takeNumbers_10 ic_0 ?_
    refine j_istore C d_WO_takeNumbers_11 (by decide) (lv' := [(4, .int (0 : Int32)), (0, .ref (E.2.2.1 h0)), (1, .ref (E.2.2.1 h1)), (2, .ref (E.2.2.1 h2)), (3, .int v3)]) rfl ?_
    refine j_lv [1, 2, 3, 4, 0] rfl ?_
    exact k_WO_takeNumbers_13 C hr hE h0 h1 h2 v3 (0 : Int32) I g_h0 g_h1 g_h2 hX2 h
theorem k_WO_takeNumbers_2 {Z : jZ} {E : jE} (C : jC Z E prog_12_method_4_code 5 "OutOrder$Work" 0 0) (hr : (jZh Z).sig.returnType = none) (hE : E.2.2.2 = jLX)  (h0 : Nat) (h1 : Nat) (h2 : Nat) (v3 : Int32) (I : jM) (g_h0 : jOB E 9 h0) (g_h1 : jOB E 8 h1) (g_h2 : jOB E 6 h2) {K : jM → Prop} (h : WO_takeNumbers_2 h0 h1 h2 v3 I K) : jJ Z E 5 (jQv Z E K) 2 [(0, .ref (E.2.2.1 h0)), (1, .ref (E.2.2.1 h1)), (2, .ref (E.2.2.1 h2)), (3, .int v3)] [] I := by
  unfold WO_takeNumbers_2 at h
  exact h (fun s => jJ Z E 5 (jQv Z E K) 2 [(0, .ref (E.2.2.1 h0)), (1, .ref (E.2.2.1 h1)), (2, .ref (E.2.2.1 h2)), (3, .int s.1)] [] s.2) (fun s hs => kb_WO_takeNumbers_2 C hr hE h0 h1 h2 s.1 s.2 g_h0 g_h1 g_h2 (fun s2 h2 => h2) hs)
/-- OutOrder$Work.takeNumbers(LOutOrder$Table;LOutOrder$Row;)V -/
def WO_takeNumbers (h0 : Nat) (h1 : Nat) (h2 : Nat) (I : jM) (K : jM → Prop) : Prop :=
  WO_takeNumbers_2 h0 h1 h2 (0 : Int32) I K
set_option maxRecDepth 100000 in
set_option maxHeartbeats 4000000 in
theorem s_WO_takeNumbers {l : Launch} {E : jE} (ok : jOK E) (hE : E.2.2.2 = jLX) {h0 : Nat} {h1 : Nat} {h2 : Nat} (g_h0 : jOB E 9 h0) (g_h1 : jOB E 8 h1) (g_h2 : jOB E 6 h2) {I : jM} {K : jM → Prop} (h : WO_takeNumbers h0 h1 h2 I K) : jSv l E ⟨"OutOrder$Work", "takeNumbers", "(LOutOrder$Table;LOutOrder$Row;)V"⟩ prog_12_method_4_code 5 none 0 0 [.ref (E.2.2.1 h0), .ref (E.2.2.1 h1), .ref (E.2.2.1 h2)] I K := by
  refine jS_ofF (own := "OutOrder$Work") (by decide +kernel) rfl ok (Nat.le_of_ble_eq_true rfl) (fun Z _ C hr => ?_)
  show jJ Z E 5 (jQv Z E K) 0 [(0, .ref (E.2.2.1 h0)), (1, .ref (E.2.2.1 h1)), (2, .ref (E.2.2.1 h2))] [] I
  unfold WO_takeNumbers at h
  refine j_iconst C d_WO_takeNumbers_0 ic_0 ?_
  refine j_istore_n C d_WO_takeNumbers_1 rfl (by decide) (lv' := [(3, .int (0 : Int32)), (0, .ref (E.2.2.1 h0)), (1, .ref (E.2.2.1 h1)), (2, .ref (E.2.2.1 h2))]) rfl ?_
  refine j_lv [1, 2, 3, 0] rfl ?_
  exact k_WO_takeNumbers_2 C hr hE h0 h1 h2 (0 : Int32) I g_h0 g_h1 g_h2 h
theorem d_WO_reckon_0 : decode prog_12_method_3_code 0 = .ok (.aload_n 0, 1) := by decide +kernel
theorem d_WO_reckon_1 : decode prog_12_method_3_code 1 = .ok (.invokevirtual 33, 3) := by decide +kernel
theorem d_WO_reckon_4 : decode prog_12_method_3_code 4 = .ok (.aload_n 0, 1) := by decide +kernel
theorem d_WO_reckon_5 : decode prog_12_method_3_code 5 = .ok (.aload_n 1, 1) := by decide +kernel
theorem d_WO_reckon_6 : decode prog_12_method_3_code 6 = .ok (.aload_n 2, 1) := by decide +kernel
theorem d_WO_reckon_7 : decode prog_12_method_3_code 7 = .ok (.invokevirtual 36, 3) := by decide +kernel
theorem d_WO_reckon_10 : decode prog_12_method_3_code 10 = .ok (.iconst 0, 1) := by decide +kernel
theorem d_WO_reckon_11 : decode prog_12_method_3_code 11 = .ok (.istore_n 3, 1) := by decide +kernel
theorem d_WO_reckon_12 : decode prog_12_method_3_code 12 = .ok (.iload_n 3, 1) := by decide +kernel
theorem d_WO_reckon_13 : decode prog_12_method_3_code 13 = .ok (.aload_n 1, 1) := by decide +kernel
theorem d_WO_reckon_14 : decode prog_12_method_3_code 14 = .ok (.getfield 40, 3) := by decide +kernel
theorem d_WO_reckon_17 : decode prog_12_method_3_code 17 = .ok (.if_icmp .ge 101, 3) := by decide +kernel
theorem d_WO_reckon_20 : decode prog_12_method_3_code 20 = .ok (.aload_n 0, 1) := by decide +kernel
theorem d_WO_reckon_21 : decode prog_12_method_3_code 21 = .ok (.getfield 16, 3) := by decide +kernel
theorem d_WO_reckon_24 : decode prog_12_method_3_code 24 = .ok (.iload_n 3, 1) := by decide +kernel
theorem d_WO_reckon_25 : decode prog_12_method_3_code 25 = .ok (.aload_n 0, 1) := by decide +kernel
theorem d_WO_reckon_26 : decode prog_12_method_3_code 26 = .ok (.getfield 11, 3) := by decide +kernel
theorem d_WO_reckon_29 : decode prog_12_method_3_code 29 = .ok (.iload_n 3, 1) := by decide +kernel
theorem d_WO_reckon_30 : decode prog_12_method_3_code 30 = .ok (.aaload, 1) := by decide +kernel
theorem d_WO_reckon_31 : decode prog_12_method_3_code 31 = .ok (.iload_n 3, 1) := by decide +kernel
theorem d_WO_reckon_32 : decode prog_12_method_3_code 32 = .ok (.iaload, 1) := by decide +kernel
theorem d_WO_reckon_33 : decode prog_12_method_3_code 33 = .ok (.iastore, 1) := by decide +kernel
theorem d_WO_reckon_34 : decode prog_12_method_3_code 34 = .ok (.aload_n 0, 1) := by decide +kernel
theorem d_WO_reckon_35 : decode prog_12_method_3_code 35 = .ok (.getfield 20, 3) := by decide +kernel
theorem d_WO_reckon_38 : decode prog_12_method_3_code 38 = .ok (.iload_n 3, 1) := by decide +kernel
theorem d_WO_reckon_39 : decode prog_12_method_3_code 39 = .ok (.aload_n 1, 1) := by decide +kernel
theorem d_WO_reckon_40 : decode prog_12_method_3_code 40 = .ok (.getfield 45, 3) := by decide +kernel
theorem d_WO_reckon_43 : decode prog_12_method_3_code 43 = .ok (.aload_n 0, 1) := by decide +kernel
theorem d_WO_reckon_44 : decode prog_12_method_3_code 44 = .ok (.getfield 16, 3) := by decide +kernel
theorem d_WO_reckon_47 : decode prog_12_method_3_code 47 = .ok (.iload_n 3, 1) := by decide +kernel
theorem d_WO_reckon_48 : decode prog_12_method_3_code 48 = .ok (.iaload, 1) := by decide +kernel
theorem d_WO_reckon_49 : decode prog_12_method_3_code 49 = .ok (.invokevirtual 49, 3) := by decide +kernel
theorem d_WO_reckon_52 : decode prog_12_method_3_code 52 = .ok (.iastore, 1) := by decide +kernel
theorem d_WO_reckon_53 : decode prog_12_method_3_code 53 = .ok (.aload_n 0, 1) := by decide +kernel
theorem d_WO_reckon_54 : decode prog_12_method_3_code 54 = .ok (.getfield 16, 3) := by decide +kernel
theorem d_WO_reckon_57 : decode prog_12_method_3_code 57 = .ok (.iload_n 3, 1) := by decide +kernel
theorem d_WO_reckon_58 : decode prog_12_method_3_code 58 = .ok (.iaload, 1) := by decide +kernel
theorem d_WO_reckon_59 : decode prog_12_method_3_code 59 = .ok (.ifCond .ne 21, 3) := by decide +kernel
theorem d_WO_reckon_62 : decode prog_12_method_3_code 62 = .ok (.aload_n 0, 1) := by decide +kernel
theorem d_WO_reckon_63 : decode prog_12_method_3_code 63 = .ok (.iload_n 3, 1) := by decide +kernel
theorem d_WO_reckon_64 : decode prog_12_method_3_code 64 = .ok (.aload_n 1, 1) := by decide +kernel
theorem d_WO_reckon_65 : decode prog_12_method_3_code 65 = .ok (.getfield 40, 3) := by decide +kernel
theorem d_WO_reckon_68 : decode prog_12_method_3_code 68 = .ok (.invokevirtual 55, 3) := by decide +kernel
theorem d_WO_reckon_71 : decode prog_12_method_3_code 71 = .ok (.ifCond .eq 9, 3) := by decide +kernel
theorem d_WO_reckon_74 : decode prog_12_method_3_code 74 = .ok (.aload_n 0, 1) := by decide +kernel
theorem d_WO_reckon_75 : decode prog_12_method_3_code 75 = .ok (.iload_n 3, 1) := by decide +kernel
theorem d_WO_reckon_76 : decode prog_12_method_3_code 76 = .ok (.putfield 26, 3) := by decide +kernel
theorem d_WO_reckon_79 : decode prog_12_method_3_code 79 = .ok (.return_, 1) := by decide +kernel
theorem d_WO_reckon_80 : decode prog_12_method_3_code 80 = .ok (.aload_n 0, 1) := by decide +kernel
theorem d_WO_reckon_81 : decode prog_12_method_3_code 81 = .ok (.getfield 16, 3) := by decide +kernel
theorem d_WO_reckon_84 : decode prog_12_method_3_code 84 = .ok (.iload_n 3, 1) := by decide +kernel
theorem d_WO_reckon_85 : decode prog_12_method_3_code 85 = .ok (.iaload, 1) := by decide +kernel
theorem d_WO_reckon_86 : decode prog_12_method_3_code 86 = .ok (.ifCond .eq 16, 3) := by decide +kernel
theorem d_WO_reckon_89 : decode prog_12_method_3_code 89 = .ok (.aload_n 0, 1) := by decide +kernel
theorem d_WO_reckon_90 : decode prog_12_method_3_code 90 = .ok (.iload_n 3, 1) := by decide +kernel
theorem d_WO_reckon_91 : decode prog_12_method_3_code 91 = .ok (.aload_n 1, 1) := by decide +kernel
theorem d_WO_reckon_92 : decode prog_12_method_3_code 92 = .ok (.getfield 40, 3) := by decide +kernel
theorem d_WO_reckon_95 : decode prog_12_method_3_code 95 = .ok (.aload_n 1, 1) := by decide +kernel
theorem d_WO_reckon_96 : decode prog_12_method_3_code 96 = .ok (.getfield 45, 3) := by decide +kernel
theorem d_WO_reckon_99 : decode prog_12_method_3_code 99 = .ok (.invokevirtual 59, 3) := by decide +kernel
theorem d_WO_reckon_102 : decode prog_12_method_3_code 102 = .ok (.aload_n 0, 1) := by decide +kernel
theorem d_WO_reckon_103 : decode prog_12_method_3_code 103 = .ok (.dup, 1) := by decide +kernel
theorem d_WO_reckon_104 : decode prog_12_method_3_code 104 = .ok (.getfield 30, 3) := by decide +kernel
theorem d_WO_reckon_107 : decode prog_12_method_3_code 107 = .ok (.iconst 1, 1) := by decide +kernel
theorem d_WO_reckon_108 : decode prog_12_method_3_code 108 = .ok (.iadd, 1) := by decide +kernel
theorem d_WO_reckon_109 : decode prog_12_method_3_code 109 = .ok (.putfield 30, 3) := by decide +kernel
theorem d_WO_reckon_112 : decode prog_12_method_3_code 112 = .ok (.iinc 3 1, 3) := by decide +kernel
theorem d_WO_reckon_115 : decode prog_12_method_3_code 115 = .ok (.goto (-103), 3) := by decide +kernel
theorem d_WO_reckon_118 : decode prog_12_method_3_code 118 = .ok (.return_, 1) := by decide +kernel
def WO_reckon_80 (h0 : Nat) (h1 : Nat) (v3 : Int32) (I : jM) (K : jM → Prop) (X12 : Int32 × jM → Prop) : Prop :=
  (vp_in v3 24 ∧ (((I (jr h0 1) v3.toNatClampNeg) = 0 → (∀ I_1 : jM, I_1 = jwr I h0 4 ((I h0 4) + (1 : Int32)) → X12 ((v3 + 1), I_1))) ∧ (¬ (I (jr h0 1) v3.toNatClampNeg) = 0 → WO_eliminate h0 v3 (I h1 4) (jr h1 0) I (fun I_3 => (∀ I_4 : jM, I_4 = jwr I_3 h0 4 ((I_3 h0 4) + (1 : Int32)) → X12 ((v3 + 1), I_4))))))
set_option maxRecDepth 100000 in
set_option maxHeartbeats 4000000 in
theorem k_WO_reckon_80 {Z : jZ} {E : jE} (C : jC Z E prog_12_method_3_code 4 "OutOrder$Work" 4 91) (hr : (jZh Z).sig.returnType = none) (hE : E.2.2.2 = jLX)  (h0 : Nat) (h1 : Nat) (v3 : Int32) (I : jM) (g_h0 : jOB E 9 h0) (g_h1 : jOB E 8 h1) {K : jM → Prop} {X12 : Int32 × jM → Prop} (hX12 : ∀ s : Int32 × jM, X12 s → jJ Z E 4 (jQv Z E K) 12 [(0, .ref (E.2.2.1 h0)), (1, .ref (E.2.2.1 h1)), (3, .int s.1)] [] s.2) (h : WO_reckon_80 h0 h1 v3 I K X12) : jJ Z E 4 (jQv Z E K) 80 [(0, .ref (E.2.2.1 h0)), (1, .ref (E.2.2.1 h1)), (3, .int v3)] [] I := by
  unfold WO_reckon_80 at h
  refine j_aload_n C d_WO_reckon_80 rfl 0 rfl ?_
  refine fg_WO_16 C g_h0 d_WO_reckon_81 ?_
  refine j_iload_n C d_WO_reckon_84 rfl 2 rfl ?_
  obtain ⟨hi, h⟩ := h
  refine j_iaload C (sh_WO_1 hE g_h0) hi d_WO_reckon_85 ?_
  refine j_if_eq C d_WO_reckon_86 (tgt := 102) (by decide) (fun c86 => ?_) (fun c86 => ?_)
  · have h := h.1 c86
    refine j_aload_n C d_WO_reckon_102 rfl 0 rfl ?_
    refine j_dup C d_WO_reckon_103 rfl ?_
    refine fg_WO_30 C g_h0 d_WO_reckon_104 ?_
    refine j_iconst C d_WO_reckon_107 ic_1 ?_
    refine j_iadd C d_WO_reckon_108 ?_
    refine fp_WO_30 C g_h0 d_WO_reckon_109 ?_
    have h := h _ rfl
    generalize eI_1 : (jwr I h0 4 ((I h0 4) + (1 : Int32)) : jM) = I_1 at h ⊢
    refine j_iinc C d_WO_reckon_112 2 rfl (v := (v3 + 1)) rfl (by decide) (lv' := [(3, .int (v3 + 1)), (0, .ref (E.2.2.1 h0)), (1, .ref (E.2.2.1 h1))]) rfl ?_
    refine j_goto C d_WO_reckon_115 (tgt := 12) (by decide) ?_
    refine j_lv [1, 2, 0] rfl ?_
    exact hX12 ((v3 + 1), I_1) h
  · have h := h.2 c86
    refine j_aload_n C d_WO_reckon_89 rfl 0 rfl ?_
    refine j_iload_n C d_WO_reckon_90 rfl 2 rfl ?_
    refine j_aload_n C d_WO_reckon_91 rfl 1 rfl ?_
    refine fg_WO_40 C g_h1 d_WO_reckon_92 ?_
    refine j_aload_n C d_WO_reckon_95 rfl 1 rfl ?_
    refine fg_WO_45 C g_h1 d_WO_reckon_96 ?_
    refine j_callVv (As := [.int v3, .int (I h1 4), .ref (E.2.2.1 (jr h1 0))]) C jcl_WO cw_WO_59 w_644 ws_22 g_h0 rfl rfl (by decide) (by decide) (Nat.le_of_ble_eq_true rfl) d_WO_reckon_99 (s_WO_eliminate C.ok hE g_h0 (sh_TA_0 hE g_h1) h) (fun I_3 h => ?_)
    refine j_aload_n C d_WO_reckon_102 rfl 0 rfl ?_
    refine j_dup C d_WO_reckon_103 rfl ?_
    refine fg_WO_30 C g_h0 d_WO_reckon_104 ?_
    refine j_iconst C d_WO_reckon_107 ic_1 ?_
    refine j_iadd C d_WO_reckon_108 ?_
    refine fp_WO_30 C g_h0 d_WO_reckon_109 ?_
    have h := h _ rfl
    generalize eI_4 : (jwr I_3 h0 4 ((I_3 h0 4) + (1 : Int32)) : jM) = I_4 at h ⊢
    refine j_iinc C d_WO_reckon_112 2 rfl (v := (v3 + 1)) rfl (by decide) (lv' := [(3, .int (v3 + 1)), (0, .ref (E.2.2.1 h0)), (1, .ref (E.2.2.1 h1))]) rfl ?_
    refine j_goto C d_WO_reckon_115 (tgt := 12) (by decide) ?_
    refine j_lv [1, 2, 0] rfl ?_
    exact hX12 ((v3 + 1), I_4) h
def WO_reckon_12b (h0 : Nat) (h1 : Nat) (v3 : Int32) (I : jM) (K : jM → Prop) (X12 : Int32 × jM → Prop) : Prop :=
  (((I h1 4) ≤ v3 → K I) ∧ (¬ (I h1 4) ≤ v3 → (vp_in v3 24 ∧ (vp_in v3 24 ∧ (vp_in v3 24 ∧ (∀ I_2 : jM, I_2 = jwr I (jr h0 1) v3.toNatClampNeg (I (jw (jr h0 0) v3.toNatClampNeg) v3.toNatClampNeg) → (vp_in v3 24 ∧ MO_inverse (jr h1 0) (I_2 (jr h0 1) v3.toNatClampNeg) I_2 (fun r_3 => (vp_in v3 24 ∧ (∀ I_4 : jM, I_4 = jwr I_2 (jr h0 2) v3.toNatClampNeg r_3 → (vp_in v3 24 ∧ ((¬ (I_4 (jr h0 1) v3.toNatClampNeg) = 0 → WO_reckon_80 h0 h1 v3 I_4 K X12) ∧ ((I_4 (jr h0 1) v3.toNatClampNeg) = 0 → WO_hasRest h0 v3 (I_4 h1 4) I_4 (fun r_5 => ((r_5 = 0 → WO_reckon_80 h0 h1 v3 I_4 K X12) ∧ (¬ r_5 = 0 → (∀ I_6 : jM, I_6 = jwr I_4 h0 5 v3 → K I_6)))))))))))))))))
def WO_reckon_12 (h0 : Nat) (h1 : Nat) (v3 : Int32) (I : jM) (K : jM → Prop) : Prop :=
  lp (fun (X12 : Int32 × jM → Prop) (s : Int32 × jM) => WO_reckon_12b h0 h1 s.1 s.2 K X12) (v3, I)
set_option maxRecDepth 100000 in
set_option maxHeartbeats 4000000 in
theorem kb_WO_reckon_12 {Z : jZ} {E : jE} (C : jC Z E prog_12_method_3_code 4 "OutOrder$Work" 4 91) (hr : (jZh Z).sig.returnType = none) (hE : E.2.2.2 = jLX)  (h0 : Nat) (h1 : Nat) (v3 : Int32) (I : jM) (g_h0 : jOB E 9 h0) (g_h1 : jOB E 8 h1) {K : jM → Prop} {X12 : Int32 × jM → Prop} (hX12 : ∀ s : Int32 × jM, X12 s → jJ Z E 4 (jQv Z E K) 12 [(0, .ref (E.2.2.1 h0)), (1, .ref (E.2.2.1 h1)), (3, .int s.1)] [] s.2) (h : WO_reckon_12b h0 h1 v3 I K X12) : jJ Z E 4 (jQv Z E K) 12 [(0, .ref (E.2.2.1 h0)), (1, .ref (E.2.2.1 h1)), (3, .int v3)] [] I := by
  unfold WO_reckon_12b at h
  refine j_iload_n C d_WO_reckon_12 rfl 2 rfl ?_
  refine j_aload_n C d_WO_reckon_13 rfl 1 rfl ?_
  refine fg_WO_40 C g_h1 d_WO_reckon_14 ?_
  refine j_icmp_ge C d_WO_reckon_17 (tgt := 118) (by decide) (fun c17 => ?_) (fun c17 => ?_)
  · have h := h.1 c17
    exact j_vret C hr d_WO_reckon_118 h
  · have h := h.2 c17
    refine j_aload_n C d_WO_reckon_20 rfl 0 rfl ?_
    refine fg_WO_16 C g_h0 d_WO_reckon_21 ?_
    refine j_iload_n C d_WO_reckon_24 rfl 2 rfl ?_
    refine j_aload_n C d_WO_reckon_25 rfl 0 rfl ?_
    refine fg_WO_11 C g_h0 d_WO_reckon_26 ?_
    refine j_iload_n C d_WO_reckon_29 rfl 2 rfl ?_
    obtain ⟨hi_1, h⟩ := h
    refine j_aaload C (sh_WO_0 hE g_h0) hi_1 d_WO_reckon_30 ?_
    refine j_iload_n C d_WO_reckon_31 rfl 2 rfl ?_
    obtain ⟨hi, h⟩ := h
    refine j_iaload C (sr_24_24 hE (sh_WO_0 hE g_h0) hi_1) hi d_WO_reckon_32 ?_
    obtain ⟨hi, h⟩ := h
    refine j_iastore C (sh_WO_1 hE g_h0) hi d_WO_reckon_33 ?_
    have h := h _ rfl
    generalize eI_2 : (jwr I (jr h0 1) v3.toNatClampNeg (I (jw (jr h0 0) v3.toNatClampNeg) v3.toNatClampNeg) : jM) = I_2 at h ⊢
    refine j_aload_n C d_WO_reckon_34 rfl 0 rfl ?_
    refine fg_WO_20 C g_h0 d_WO_reckon_35 ?_
    refine j_iload_n C d_WO_reckon_38 rfl 2 rfl ?_
    refine j_aload_n C d_WO_reckon_39 rfl 1 rfl ?_
    refine fg_WO_45 C g_h1 d_WO_reckon_40 ?_
    refine j_aload_n C d_WO_reckon_43 rfl 0 rfl ?_
    refine fg_WO_16 C g_h0 d_WO_reckon_44 ?_
    refine j_iload_n C d_WO_reckon_47 rfl 2 rfl ?_
    obtain ⟨hi, h⟩ := h
    refine j_iaload C (sh_WO_1 hE g_h0) hi d_WO_reckon_48 ?_
    refine j_callVi (As := [.int (I_2 (jr h0 1) v3.toNatClampNeg)]) C jcl_MO cw_WO_49 w_630 w_631 (sh_TA_0 hE g_h1) rfl rfl (by decide) (by decide) (Nat.le_of_ble_eq_true rfl) d_WO_reckon_49 (s_MO_inverse C.ok (sh_TA_0 hE g_h1) h) (fun r_3 I2 h => ?_)
    obtain ⟨rfl, h⟩ := h
    obtain ⟨hi, h⟩ := h
    refine j_iastore C (sh_WO_2 hE g_h0) hi d_WO_reckon_52 ?_
    have h := h _ rfl
    generalize eI_4 : (jwr I_2 (jr h0 2) v3.toNatClampNeg r_3 : jM) = I_4 at h ⊢
    refine j_aload_n C d_WO_reckon_53 rfl 0 rfl ?_
    refine fg_WO_16 C g_h0 d_WO_reckon_54 ?_
    refine j_iload_n C d_WO_reckon_57 rfl 2 rfl ?_
    obtain ⟨hi, h⟩ := h
    refine j_iaload C (sh_WO_1 hE g_h0) hi d_WO_reckon_58 ?_
    refine j_if_ne C d_WO_reckon_59 (tgt := 80) (by decide) (fun c59 => ?_) (fun c59 => ?_)
    · have h := h.1 c59
      refine j_lv [0, 1, 2] rfl ?_
      exact k_WO_reckon_80 C hr hE h0 h1 v3 I_4 g_h0 g_h1 hX12 h
    · have h := h.2 c59
      refine j_aload_n C d_WO_reckon_62 rfl 0 rfl ?_
      refine j_iload_n C d_WO_reckon_63 rfl 2 rfl ?_
      refine j_aload_n C d_WO_reckon_64 rfl 1 rfl ?_
      refine fg_WO_40 C g_h1 d_WO_reckon_65 ?_
      refine j_callVi (As := [.int v3, .int (I_4 h1 4)]) C jcl_WO cw_WO_55 w_640 ws_21 g_h0 rfl rfl (by decide) (by decide) (Nat.le_of_ble_eq_true rfl) d_WO_reckon_68 (s_WO_hasRest C.ok hE g_h0 h) (fun r_5 I2 h => ?_)
      obtain ⟨rfl, h⟩ := h
      refine j_if_eq C d_WO_reckon_71 (tgt := 80) (by decide) (fun c71 => ?_) (fun c71 => ?_)
      · have h := h.1 c71
        refine j_lv [0, 1, 2] rfl ?_
        exact k_WO_reckon_80 C hr hE h0 h1 v3 I_4 g_h0 g_h1 hX12 h
      · have h := h.2 c71
        refine j_aload_n C d_WO_reckon_74 rfl 0 rfl ?_
        refine j_iload_n C d_WO_reckon_75 rfl 2 rfl ?_
        refine fp_WO_26 C g_h0 d_WO_reckon_76 ?_
        have h := h _ rfl
        generalize eI_6 : (jwr I_4 h0 5 v3 : jM) = I_6 at h ⊢
        exact j_vret C hr d_WO_reckon_79 h
theorem k_WO_reckon_12 {Z : jZ} {E : jE} (C : jC Z E prog_12_method_3_code 4 "OutOrder$Work" 4 91) (hr : (jZh Z).sig.returnType = none) (hE : E.2.2.2 = jLX)  (h0 : Nat) (h1 : Nat) (v3 : Int32) (I : jM) (g_h0 : jOB E 9 h0) (g_h1 : jOB E 8 h1) {K : jM → Prop} (h : WO_reckon_12 h0 h1 v3 I K) : jJ Z E 4 (jQv Z E K) 12 [(0, .ref (E.2.2.1 h0)), (1, .ref (E.2.2.1 h1)), (3, .int v3)] [] I := by
  unfold WO_reckon_12 at h
  exact h (fun s => jJ Z E 4 (jQv Z E K) 12 [(0, .ref (E.2.2.1 h0)), (1, .ref (E.2.2.1 h1)), (3, .int s.1)] [] s.2) (fun s hs => kb_WO_reckon_12 C hr hE h0 h1 s.1 s.2 g_h0 g_h1 (fun s2 h2 => h2) hs)
/-- OutOrder$Work.reckon(LOutOrder$Table;LOutOrder$Row;)V -/
def WO_reckon (h0 : Nat) (h1 : Nat) (h2 : Nat) (I : jM) (K : jM → Prop) : Prop :=
  WO_forget h0 I (fun I_2 => WO_takeNumbers h0 h1 h2 I_2 (fun I_4 => WO_reckon_12 h0 h1 (0 : Int32) I_4 K))
set_option maxRecDepth 100000 in
set_option maxHeartbeats 4000000 in
theorem s_WO_reckon {l : Launch} {E : jE} (ok : jOK E) (hE : E.2.2.2 = jLX) {h0 : Nat} {h1 : Nat} {h2 : Nat} (g_h0 : jOB E 9 h0) (g_h1 : jOB E 8 h1) (g_h2 : jOB E 6 h2) {I : jM} {K : jM → Prop} (h : WO_reckon h0 h1 h2 I K) : jSv l E ⟨"OutOrder$Work", "reckon", "(LOutOrder$Table;LOutOrder$Row;)V"⟩ prog_12_method_3_code 4 none 4 91 [.ref (E.2.2.1 h0), .ref (E.2.2.1 h1), .ref (E.2.2.1 h2)] I K := by
  refine jS_ofF (own := "OutOrder$Work") (by decide +kernel) rfl ok (Nat.le_of_ble_eq_true rfl) (fun Z _ C hr => ?_)
  show jJ Z E 4 (jQv Z E K) 0 [(0, .ref (E.2.2.1 h0)), (1, .ref (E.2.2.1 h1)), (2, .ref (E.2.2.1 h2))] [] I
  unfold WO_reckon at h
  refine j_aload_n C d_WO_reckon_0 rfl 0 rfl ?_
  refine j_callVv (As := []) C jcl_WO cw_WO_33 w_309 w_310 g_h0 rfl rfl (by decide) (by decide) (Nat.le_of_ble_eq_true rfl) d_WO_reckon_1 (s_WO_forget C.ok g_h0 h) (fun I_2 h => ?_)
  refine j_aload_n C d_WO_reckon_4 rfl 0 rfl ?_
  refine j_aload_n C d_WO_reckon_5 rfl 1 rfl ?_
  refine j_aload_n C d_WO_reckon_6 rfl 2 rfl ?_
  refine j_callVv (As := [.ref (E.2.2.1 h1), .ref (E.2.2.1 h2)]) C jcl_WO cw_WO_36 w_627 ws_20 g_h0 rfl rfl (by decide) (by decide) (Nat.le_of_ble_eq_true rfl) d_WO_reckon_7 (s_WO_takeNumbers C.ok hE g_h0 g_h1 g_h2 h) (fun I_4 h => ?_)
  refine j_iconst C d_WO_reckon_10 ic_0 ?_
  refine j_istore_n C d_WO_reckon_11 rfl (by decide) (lv' := [(3, .int (0 : Int32)), (0, .ref (E.2.2.1 h0)), (1, .ref (E.2.2.1 h1)), (2, .ref (E.2.2.1 h2))]) rfl ?_
  refine j_lv [1, 2, 0] rfl ?_
  exact k_WO_reckon_12 C hr hE h0 h1 (0 : Int32) I_4 g_h0 g_h1 h
theorem d_WO_resolve_0 : decode prog_12_method_12_code 0 = .ok (.aload_n 1, 1) := by decide +kernel
theorem d_WO_resolve_1 : decode prog_12_method_12_code 1 = .ok (.getfield 45, 3) := by decide +kernel
theorem d_WO_resolve_4 : decode prog_12_method_12_code 4 = .ok (.astore_n 2, 1) := by decide +kernel
theorem d_WO_resolve_5 : decode prog_12_method_12_code 5 = .ok (.aload_n 1, 1) := by decide +kernel
theorem d_WO_resolve_6 : decode prog_12_method_12_code 6 = .ok (.getfield 40, 3) := by decide +kernel
theorem d_WO_resolve_9 : decode prog_12_method_12_code 9 = .ok (.istore_n 3, 1) := by decide +kernel
theorem d_WO_resolve_10 : decode prog_12_method_12_code 10 = .ok (.iconst 0, 1) := by decide +kernel
theorem d_WO_resolve_11 : decode prog_12_method_12_code 11 = .ok (.istore 4, 2) := by decide +kernel
theorem d_WO_resolve_13 : decode prog_12_method_12_code 13 = .ok (.iload 4, 2) := by decide +kernel
theorem d_WO_resolve_15 : decode prog_12_method_12_code 15 = .ok (.iload_n 3, 1) := by decide +kernel
theorem d_WO_resolve_16 : decode prog_12_method_12_code 16 = .ok (.if_icmp .ge 62, 3) := by decide +kernel
theorem d_WO_resolve_19 : decode prog_12_method_12_code 19 = .ok (.iconst 0, 1) := by decide +kernel
theorem d_WO_resolve_20 : decode prog_12_method_12_code 20 = .ok (.istore 5, 2) := by decide +kernel
theorem d_WO_resolve_22 : decode prog_12_method_12_code 22 = .ok (.iload 5, 2) := by decide +kernel
theorem d_WO_resolve_24 : decode prog_12_method_12_code 24 = .ok (.iload 4, 2) := by decide +kernel
theorem d_WO_resolve_26 : decode prog_12_method_12_code 26 = .ok (.if_icmp .ge 46, 3) := by decide +kernel
theorem d_WO_resolve_29 : decode prog_12_method_12_code 29 = .ok (.aload_n 0, 1) := by decide +kernel
theorem d_WO_resolve_30 : decode prog_12_method_12_code 30 = .ok (.getfield 23, 3) := by decide +kernel
theorem d_WO_resolve_33 : decode prog_12_method_12_code 33 = .ok (.iload 4, 2) := by decide +kernel
theorem d_WO_resolve_35 : decode prog_12_method_12_code 35 = .ok (.aload_n 2, 1) := by decide +kernel
theorem d_WO_resolve_36 : decode prog_12_method_12_code 36 = .ok (.aload_n 0, 1) := by decide +kernel
theorem d_WO_resolve_37 : decode prog_12_method_12_code 37 = .ok (.getfield 23, 3) := by decide +kernel
theorem d_WO_resolve_40 : decode prog_12_method_12_code 40 = .ok (.iload 4, 2) := by decide +kernel
theorem d_WO_resolve_42 : decode prog_12_method_12_code 42 = .ok (.iaload, 1) := by decide +kernel
theorem d_WO_resolve_43 : decode prog_12_method_12_code 43 = .ok (.aload_n 0, 1) := by decide +kernel
theorem d_WO_resolve_44 : decode prog_12_method_12_code 44 = .ok (.getfield 11, 3) := by decide +kernel
theorem d_WO_resolve_47 : decode prog_12_method_12_code 47 = .ok (.iload 4, 2) := by decide +kernel
theorem d_WO_resolve_49 : decode prog_12_method_12_code 49 = .ok (.aaload, 1) := by decide +kernel
theorem d_WO_resolve_50 : decode prog_12_method_12_code 50 = .ok (.iload 5, 2) := by decide +kernel
theorem d_WO_resolve_52 : decode prog_12_method_12_code 52 = .ok (.iaload, 1) := by decide +kernel
theorem d_WO_resolve_53 : decode prog_12_method_12_code 53 = .ok (.aload_n 0, 1) := by decide +kernel
theorem d_WO_resolve_54 : decode prog_12_method_12_code 54 = .ok (.getfield 23, 3) := by decide +kernel
theorem d_WO_resolve_57 : decode prog_12_method_12_code 57 = .ok (.iload 5, 2) := by decide +kernel
theorem d_WO_resolve_59 : decode prog_12_method_12_code 59 = .ok (.iaload, 1) := by decide +kernel
theorem d_WO_resolve_60 : decode prog_12_method_12_code 60 = .ok (.imul, 1) := by decide +kernel
theorem d_WO_resolve_61 : decode prog_12_method_12_code 61 = .ok (.isub, 1) := by decide +kernel
theorem d_WO_resolve_62 : decode prog_12_method_12_code 62 = .ok (.invokevirtual 75, 3) := by decide +kernel
theorem d_WO_resolve_65 : decode prog_12_method_12_code 65 = .ok (.iastore, 1) := by decide +kernel
theorem d_WO_resolve_66 : decode prog_12_method_12_code 66 = .ok (.iinc 5 1, 3) := by decide +kernel
theorem d_WO_resolve_69 : decode prog_12_method_12_code 69 = .ok (.goto (-47), 3) := by decide +kernel
theorem d_WO_resolve_72 : decode prog_12_method_12_code 72 = .ok (.iinc 4 1, 3) := by decide +kernel
theorem d_WO_resolve_75 : decode prog_12_method_12_code 75 = .ok (.goto (-62), 3) := by decide +kernel
theorem d_WO_resolve_78 : decode prog_12_method_12_code 78 = .ok (.iload_n 3, 1) := by decide +kernel
theorem d_WO_resolve_79 : decode prog_12_method_12_code 79 = .ok (.iconst 1, 1) := by decide +kernel
theorem d_WO_resolve_80 : decode prog_12_method_12_code 80 = .ok (.isub, 1) := by decide +kernel
theorem d_WO_resolve_81 : decode prog_12_method_12_code 81 = .ok (.istore 4, 2) := by decide +kernel
theorem d_WO_resolve_83 : decode prog_12_method_12_code 83 = .ok (.iload 4, 2) := by decide +kernel
theorem d_WO_resolve_85 : decode prog_12_method_12_code 85 = .ok (.ifCond .lt 89, 3) := by decide +kernel
theorem d_WO_resolve_88 : decode prog_12_method_12_code 88 = .ok (.aload_n 0, 1) := by decide +kernel
theorem d_WO_resolve_89 : decode prog_12_method_12_code 89 = .ok (.getfield 23, 3) := by decide +kernel
theorem d_WO_resolve_92 : decode prog_12_method_12_code 92 = .ok (.iload 4, 2) := by decide +kernel
theorem d_WO_resolve_94 : decode prog_12_method_12_code 94 = .ok (.aload_n 2, 1) := by decide +kernel
theorem d_WO_resolve_95 : decode prog_12_method_12_code 95 = .ok (.aload_n 0, 1) := by decide +kernel
theorem d_WO_resolve_96 : decode prog_12_method_12_code 96 = .ok (.getfield 23, 3) := by decide +kernel
theorem d_WO_resolve_99 : decode prog_12_method_12_code 99 = .ok (.iload 4, 2) := by decide +kernel
theorem d_WO_resolve_101 : decode prog_12_method_12_code 101 = .ok (.iaload, 1) := by decide +kernel
theorem d_WO_resolve_102 : decode prog_12_method_12_code 102 = .ok (.aload_n 0, 1) := by decide +kernel
theorem d_WO_resolve_103 : decode prog_12_method_12_code 103 = .ok (.getfield 20, 3) := by decide +kernel
theorem d_WO_resolve_106 : decode prog_12_method_12_code 106 = .ok (.iload 4, 2) := by decide +kernel
theorem d_WO_resolve_108 : decode prog_12_method_12_code 108 = .ok (.iaload, 1) := by decide +kernel
theorem d_WO_resolve_109 : decode prog_12_method_12_code 109 = .ok (.invokevirtual 71, 3) := by decide +kernel
theorem d_WO_resolve_112 : decode prog_12_method_12_code 112 = .ok (.iastore, 1) := by decide +kernel
theorem d_WO_resolve_113 : decode prog_12_method_12_code 113 = .ok (.iload 4, 2) := by decide +kernel
theorem d_WO_resolve_115 : decode prog_12_method_12_code 115 = .ok (.iconst 1, 1) := by decide +kernel
theorem d_WO_resolve_116 : decode prog_12_method_12_code 116 = .ok (.iadd, 1) := by decide +kernel
theorem d_WO_resolve_117 : decode prog_12_method_12_code 117 = .ok (.istore 5, 2) := by decide +kernel
theorem d_WO_resolve_119 : decode prog_12_method_12_code 119 = .ok (.iload 5, 2) := by decide +kernel
theorem d_WO_resolve_121 : decode prog_12_method_12_code 121 = .ok (.iload_n 3, 1) := by decide +kernel
theorem d_WO_resolve_122 : decode prog_12_method_12_code 122 = .ok (.if_icmp .ge 46, 3) := by decide +kernel
theorem d_WO_resolve_125 : decode prog_12_method_12_code 125 = .ok (.aload_n 0, 1) := by decide +kernel
theorem d_WO_resolve_126 : decode prog_12_method_12_code 126 = .ok (.getfield 23, 3) := by decide +kernel
theorem d_WO_resolve_129 : decode prog_12_method_12_code 129 = .ok (.iload 4, 2) := by decide +kernel
theorem d_WO_resolve_131 : decode prog_12_method_12_code 131 = .ok (.aload_n 2, 1) := by decide +kernel
theorem d_WO_resolve_132 : decode prog_12_method_12_code 132 = .ok (.aload_n 0, 1) := by decide +kernel
theorem d_WO_resolve_133 : decode prog_12_method_12_code 133 = .ok (.getfield 23, 3) := by decide +kernel
theorem d_WO_resolve_136 : decode prog_12_method_12_code 136 = .ok (.iload 4, 2) := by decide +kernel
theorem d_WO_resolve_138 : decode prog_12_method_12_code 138 = .ok (.iaload, 1) := by decide +kernel
theorem d_WO_resolve_139 : decode prog_12_method_12_code 139 = .ok (.aload_n 0, 1) := by decide +kernel
theorem d_WO_resolve_140 : decode prog_12_method_12_code 140 = .ok (.getfield 11, 3) := by decide +kernel
theorem d_WO_resolve_143 : decode prog_12_method_12_code 143 = .ok (.iload 5, 2) := by decide +kernel
theorem d_WO_resolve_145 : decode prog_12_method_12_code 145 = .ok (.aaload, 1) := by decide +kernel
theorem d_WO_resolve_146 : decode prog_12_method_12_code 146 = .ok (.iload 4, 2) := by decide +kernel
theorem d_WO_resolve_148 : decode prog_12_method_12_code 148 = .ok (.iaload, 1) := by decide +kernel
theorem d_WO_resolve_149 : decode prog_12_method_12_code 149 = .ok (.aload_n 0, 1) := by decide +kernel
theorem d_WO_resolve_150 : decode prog_12_method_12_code 150 = .ok (.getfield 23, 3) := by decide +kernel
theorem d_WO_resolve_153 : decode prog_12_method_12_code 153 = .ok (.iload 5, 2) := by decide +kernel
theorem d_WO_resolve_155 : decode prog_12_method_12_code 155 = .ok (.iaload, 1) := by decide +kernel
theorem d_WO_resolve_156 : decode prog_12_method_12_code 156 = .ok (.imul, 1) := by decide +kernel
theorem d_WO_resolve_157 : decode prog_12_method_12_code 157 = .ok (.isub, 1) := by decide +kernel
theorem d_WO_resolve_158 : decode prog_12_method_12_code 158 = .ok (.invokevirtual 75, 3) := by decide +kernel
theorem d_WO_resolve_161 : decode prog_12_method_12_code 161 = .ok (.iastore, 1) := by decide +kernel
theorem d_WO_resolve_162 : decode prog_12_method_12_code 162 = .ok (.iinc 5 1, 3) := by decide +kernel
theorem d_WO_resolve_165 : decode prog_12_method_12_code 165 = .ok (.goto (-46), 3) := by decide +kernel
theorem d_WO_resolve_168 : decode prog_12_method_12_code 168 = .ok (.iinc 4 (-1), 3) := by decide +kernel
theorem d_WO_resolve_171 : decode prog_12_method_12_code 171 = .ok (.goto (-88), 3) := by decide +kernel
theorem d_WO_resolve_174 : decode prog_12_method_12_code 174 = .ok (.return_, 1) := by decide +kernel
def WO_resolve_119b (h0 : Nat) (h2 : Nat) (v3 : Int32) (v4 : Int32) (v5 : Int32) (I : jM) (K : jM → Prop) (X83 : Int32 × jM → Prop) (X119 : Int32 × jM → Prop) : Prop :=
  ((v3 ≤ v5 → X83 ((v4 + (-1)), I)) ∧ (¬ v3 ≤ v5 → (vp_in v4 24 ∧ (vp_in v5 24 ∧ (vp_in v4 24 ∧ (vp_in v5 24 ∧ MO_reduce h2 ((I (jr h0 3) v4.toNatClampNeg) - ((I (jw (jr h0 0) v5.toNatClampNeg) v4.toNatClampNeg) * (I (jr h0 3) v5.toNatClampNeg))) I (fun r_2 => (vp_in v4 24 ∧ (∀ I_3 : jM, I_3 = jwr I (jr h0 3) v4.toNatClampNeg r_2 → X119 ((v5 + 1), I_3))))))))))
def WO_resolve_119 (h0 : Nat) (h2 : Nat) (v3 : Int32) (v4 : Int32) (v5 : Int32) (I : jM) (K : jM → Prop) (X83 : Int32 × jM → Prop) : Prop :=
  lp (fun (X119 : Int32 × jM → Prop) (s : Int32 × jM) => WO_resolve_119b h0 h2 v3 v4 s.1 s.2 K X83 X119) (v5, I)
set_option maxRecDepth 100000 in
set_option maxHeartbeats 4000000 in
theorem kb_WO_resolve_119 {Z : jZ} {E : jE} (C : jC Z E prog_12_method_12_code 6 "OutOrder$Work" 3 65) (hr : (jZh Z).sig.returnType = none) (hE : E.2.2.2 = jLX)  (h0 : Nat) (h2 : Nat) (v3 : Int32) (v4 : Int32) (v5 : Int32) (I : jM) (g_h0 : jOB E 9 h0) (g_h2 : jOB E 3 h2) {K : jM → Prop} {X83 : Int32 × jM → Prop} (hX83 : ∀ s : Int32 × jM, X83 s → jJ Z E 6 (jQv Z E K) 83 [(0, .ref (E.2.2.1 h0)), (2, .ref (E.2.2.1 h2)), (3, .int v3), (4, .int s.1)] [] s.2) {X119 : Int32 × jM → Prop} (hX119 : ∀ s : Int32 × jM, X119 s → jJ Z E 6 (jQv Z E K) 119 [(0, .ref (E.2.2.1 h0)), (2, .ref (E.2.2.1 h2)), (3, .int v3), (4, .int v4), (5, .int s.1)] [] s.2) (h : WO_resolve_119b h0 h2 v3 v4 v5 I K X83 X119) : jJ Z E 6 (jQv Z E K) 119 [(0, .ref (E.2.2.1 h0)), (2, .ref (E.2.2.1 h2)), (3, .int v3), (4, .int v4), (5, .int v5)] [] I := by
  unfold WO_resolve_119b at h
  refine j_iload C d_WO_resolve_119 4 rfl ?_
  refine j_iload_n C d_WO_resolve_121 rfl 2 rfl ?_
  refine j_icmp_ge C d_WO_resolve_122 (tgt := 168) (by decide) (fun c122 => ?_) (fun c122 => ?_)
  · have h := h.1 c122
    refine j_iinc C d_WO_resolve_168 3 rfl (v := (v4 + (-1))) rfl (by decide) (lv' := [(4, .int (v4 + (-1))), (0, .ref (E.2.2.1 h0)), (2, .ref (E.2.2.1 h2)), (3, .int v3), (5, .int v5)]) rfl ?_
    refine j_goto C d_WO_resolve_171 (tgt := 83) (by decide) ?_
    refine j_lv [1, 2, 3, 0] rfl ?_
    exact hX83 ((v4 + (-1)), I) h
  · have h := h.2 c122
    refine j_aload_n C d_WO_resolve_125 rfl 0 rfl ?_
    refine fg_WO_23 C g_h0 d_WO_resolve_126 ?_
    refine j_iload C d_WO_resolve_129 3 rfl ?_
    refine j_aload_n C d_WO_resolve_131 rfl 1 rfl ?_
    refine j_aload_n C d_WO_resolve_132 rfl 0 rfl ?_
    refine fg_WO_23 C g_h0 d_WO_resolve_133 ?_
    refine j_iload C d_WO_resolve_136 3 rfl ?_
    obtain ⟨hi, h⟩ := h
    refine j_iaload C (sh_WO_3 hE g_h0) hi d_WO_resolve_138 ?_
    refine j_aload_n C d_WO_resolve_139 rfl 0 rfl ?_
    refine fg_WO_11 C g_h0 d_WO_resolve_140 ?_
    refine j_iload C d_WO_resolve_143 4 rfl ?_
    obtain ⟨hi_1, h⟩ := h
    refine j_aaload C (sh_WO_0 hE g_h0) hi_1 d_WO_resolve_145 ?_
    refine j_iload C d_WO_resolve_146 3 rfl ?_
    obtain ⟨hi, h⟩ := h
    refine j_iaload C (sr_24_24 hE (sh_WO_0 hE g_h0) hi_1) hi d_WO_resolve_148 ?_
    refine j_aload_n C d_WO_resolve_149 rfl 0 rfl ?_
    refine fg_WO_23 C g_h0 d_WO_resolve_150 ?_
    refine j_iload C d_WO_resolve_153 4 rfl ?_
    obtain ⟨hi, h⟩ := h
    refine j_iaload C (sh_WO_3 hE g_h0) hi d_WO_resolve_155 ?_
    refine j_imul C d_WO_resolve_156 ?_
    refine j_isub C d_WO_resolve_157 ?_
    refine j_callVi (As := [.int ((I (jr h0 3) v4.toNatClampNeg) - ((I (jw (jr h0 0) v5.toNatClampNeg) v4.toNatClampNeg) * (I (jr h0 3) v5.toNatClampNeg)))]) C jcl_MO cw_WO_75 w_370 w_371 g_h2 rfl rfl (by decide) (by decide) (Nat.le_of_ble_eq_true rfl) d_WO_resolve_158 (s_MO_reduce C.ok g_h2 h) (fun r_2 I2 h => ?_)
    obtain ⟨rfl, h⟩ := h
    obtain ⟨hi, h⟩ := h
    refine j_iastore C (sh_WO_3 hE g_h0) hi d_WO_resolve_161 ?_
    have h := h _ rfl
    generalize eI_3 : (jwr I (jr h0 3) v4.toNatClampNeg r_2 : jM) = I_3 at h ⊢
    refine j_iinc C d_WO_resolve_162 4 rfl (v := (v5 + 1)) rfl (by decide) (lv' := [(5, .int (v5 + 1)), (0, .ref (E.2.2.1 h0)), (2, .ref (E.2.2.1 h2)), (3, .int v3), (4, .int v4)]) rfl ?_
    refine j_goto C d_WO_resolve_165 (tgt := 119) (by decide) ?_
    refine j_lv [1, 2, 3, 4, 0] rfl ?_
    exact hX119 ((v5 + 1), I_3) h
theorem k_WO_resolve_119 {Z : jZ} {E : jE} (C : jC Z E prog_12_method_12_code 6 "OutOrder$Work" 3 65) (hr : (jZh Z).sig.returnType = none) (hE : E.2.2.2 = jLX)  (h0 : Nat) (h2 : Nat) (v3 : Int32) (v4 : Int32) (v5 : Int32) (I : jM) (g_h0 : jOB E 9 h0) (g_h2 : jOB E 3 h2) {K : jM → Prop} {X83 : Int32 × jM → Prop} (hX83 : ∀ s : Int32 × jM, X83 s → jJ Z E 6 (jQv Z E K) 83 [(0, .ref (E.2.2.1 h0)), (2, .ref (E.2.2.1 h2)), (3, .int v3), (4, .int s.1)] [] s.2) (h : WO_resolve_119 h0 h2 v3 v4 v5 I K X83) : jJ Z E 6 (jQv Z E K) 119 [(0, .ref (E.2.2.1 h0)), (2, .ref (E.2.2.1 h2)), (3, .int v3), (4, .int v4), (5, .int v5)] [] I := by
  unfold WO_resolve_119 at h
  exact h (fun s => jJ Z E 6 (jQv Z E K) 119 [(0, .ref (E.2.2.1 h0)), (2, .ref (E.2.2.1 h2)), (3, .int v3), (4, .int v4), (5, .int s.1)] [] s.2) (fun s hs => kb_WO_resolve_119 C hr hE h0 h2 v3 v4 s.1 s.2 g_h0 g_h2 hX83 (fun s2 h2 => h2) hs)
def WO_resolve_83b (h0 : Nat) (h2 : Nat) (v3 : Int32) (v4 : Int32) (I : jM) (K : jM → Prop) (X83 : Int32 × jM → Prop) : Prop :=
  ((v4 < 0 → K I) ∧ (¬ v4 < 0 → (vp_in v4 24 ∧ (vp_in v4 24 ∧ MO_times h2 (I (jr h0 3) v4.toNatClampNeg) (I (jr h0 2) v4.toNatClampNeg) I (fun r_1 => (vp_in v4 24 ∧ (∀ I_2 : jM, I_2 = jwr I (jr h0 3) v4.toNatClampNeg r_1 → (∀ v5_3 : Int32, v5_3 = (v4 + (1 : Int32)) → WO_resolve_119 h0 h2 v3 v4 v5_3 I_2 K X83))))))))
def WO_resolve_83 (h0 : Nat) (h2 : Nat) (v3 : Int32) (v4 : Int32) (I : jM) (K : jM → Prop) : Prop :=
  lp (fun (X83 : Int32 × jM → Prop) (s : Int32 × jM) => WO_resolve_83b h0 h2 v3 s.1 s.2 K X83) (v4, I)
set_option maxRecDepth 100000 in
set_option maxHeartbeats 4000000 in
theorem kb_WO_resolve_83 {Z : jZ} {E : jE} (C : jC Z E prog_12_method_12_code 6 "OutOrder$Work" 3 65) (hr : (jZh Z).sig.returnType = none) (hE : E.2.2.2 = jLX)  (h0 : Nat) (h2 : Nat) (v3 : Int32) (v4 : Int32) (I : jM) (g_h0 : jOB E 9 h0) (g_h2 : jOB E 3 h2) {K : jM → Prop} {X83 : Int32 × jM → Prop} (hX83 : ∀ s : Int32 × jM, X83 s → jJ Z E 6 (jQv Z E K) 83 [(0, .ref (E.2.2.1 h0)), (2, .ref (E.2.2.1 h2)), (3, .int v3), (4, .int s.1)] [] s.2) (h : WO_resolve_83b h0 h2 v3 v4 I K X83) : jJ Z E 6 (jQv Z E K) 83 [(0, .ref (E.2.2.1 h0)), (2, .ref (E.2.2.1 h2)), (3, .int v3), (4, .int v4)] [] I := by
  unfold WO_resolve_83b at h
  refine j_iload C d_WO_resolve_83 3 rfl ?_
  refine j_if_lt C d_WO_resolve_85 (tgt := 174) (by decide) (fun c85 => ?_) (fun c85 => ?_)
  · have h := h.1 c85
    exact j_vret C hr d_WO_resolve_174 h
  · have h := h.2 c85
    refine j_aload_n C d_WO_resolve_88 rfl 0 rfl ?_
    refine fg_WO_23 C g_h0 d_WO_resolve_89 ?_
    refine j_iload C d_WO_resolve_92 3 rfl ?_
    refine j_aload_n C d_WO_resolve_94 rfl 1 rfl ?_
    refine j_aload_n C d_WO_resolve_95 rfl 0 rfl ?_
    refine fg_WO_23 C g_h0 d_WO_resolve_96 ?_
    refine j_iload C d_WO_resolve_99 3 rfl ?_
    obtain ⟨hi, h⟩ := h
    refine j_iaload C (sh_WO_3 hE g_h0) hi d_WO_resolve_101 ?_
    refine j_aload_n C d_WO_resolve_102 rfl 0 rfl ?_
    refine fg_WO_20 C g_h0 d_WO_resolve_103 ?_
    refine j_iload C d_WO_resolve_106 3 rfl ?_
    obtain ⟨hi, h⟩ := h
    refine j_iaload C (sh_WO_2 hE g_h0) hi d_WO_resolve_108 ?_
    refine j_callVi (As := [.int (I (jr h0 3) v4.toNatClampNeg), .int (I (jr h0 2) v4.toNatClampNeg)]) C jcl_MO cw_WO_71 w_634 w_635 g_h2 rfl rfl (by decide) (by decide) (Nat.le_of_ble_eq_true rfl) d_WO_resolve_109 (s_MO_times C.ok g_h2 h) (fun r_1 I2 h => ?_)
    obtain ⟨rfl, h⟩ := h
    obtain ⟨hi, h⟩ := h
    refine j_iastore C (sh_WO_3 hE g_h0) hi d_WO_resolve_112 ?_
    have h := h _ rfl
    generalize eI_2 : (jwr I (jr h0 3) v4.toNatClampNeg r_1 : jM) = I_2 at h ⊢
    refine j_iload C d_WO_resolve_113 3 rfl ?_
    refine j_iconst C d_WO_resolve_115 ic_1 ?_
    refine j_iadd C d_WO_resolve_116 ?_
    refine j_topi (fun v5_3 ev5_3 => ?_)
    have h := h v5_3 ev5_3
    refine j_istore C d_WO_resolve_117 (by decide) (lv' := [(5, .int v5_3), (0, .ref (E.2.2.1 h0)), (2, .ref (E.2.2.1 h2)), (3, .int v3), (4, .int v4)]) rfl ?_
    refine j_lv [1, 2, 3, 4, 0] rfl ?_
    exact k_WO_resolve_119 C hr hE h0 h2 v3 v4 v5_3 I_2 g_h0 g_h2 hX83 h
theorem k_WO_resolve_83 {Z : jZ} {E : jE} (C : jC Z E prog_12_method_12_code 6 "OutOrder$Work" 3 65) (hr : (jZh Z).sig.returnType = none) (hE : E.2.2.2 = jLX)  (h0 : Nat) (h2 : Nat) (v3 : Int32) (v4 : Int32) (I : jM) (g_h0 : jOB E 9 h0) (g_h2 : jOB E 3 h2) {K : jM → Prop} (h : WO_resolve_83 h0 h2 v3 v4 I K) : jJ Z E 6 (jQv Z E K) 83 [(0, .ref (E.2.2.1 h0)), (2, .ref (E.2.2.1 h2)), (3, .int v3), (4, .int v4)] [] I := by
  unfold WO_resolve_83 at h
  exact h (fun s => jJ Z E 6 (jQv Z E K) 83 [(0, .ref (E.2.2.1 h0)), (2, .ref (E.2.2.1 h2)), (3, .int v3), (4, .int s.1)] [] s.2) (fun s hs => kb_WO_resolve_83 C hr hE h0 h2 v3 s.1 s.2 g_h0 g_h2 (fun s2 h2 => h2) hs)
def WO_resolve_22b (h0 : Nat) (h2 : Nat) (v3 : Int32) (v4 : Int32) (v5 : Int32) (I : jM) (K : jM → Prop) (X13 : Int32 × jM → Prop) (X22 : Int32 × jM → Prop) : Prop :=
  ((v4 ≤ v5 → X13 ((v4 + 1), I)) ∧ (¬ v4 ≤ v5 → (vp_in v4 24 ∧ (vp_in v4 24 ∧ (vp_in v5 24 ∧ (vp_in v5 24 ∧ MO_reduce h2 ((I (jr h0 3) v4.toNatClampNeg) - ((I (jw (jr h0 0) v4.toNatClampNeg) v5.toNatClampNeg) * (I (jr h0 3) v5.toNatClampNeg))) I (fun r_2 => (vp_in v4 24 ∧ (∀ I_3 : jM, I_3 = jwr I (jr h0 3) v4.toNatClampNeg r_2 → X22 ((v5 + 1), I_3))))))))))
def WO_resolve_22 (h0 : Nat) (h2 : Nat) (v3 : Int32) (v4 : Int32) (v5 : Int32) (I : jM) (K : jM → Prop) (X13 : Int32 × jM → Prop) : Prop :=
  lp (fun (X22 : Int32 × jM → Prop) (s : Int32 × jM) => WO_resolve_22b h0 h2 v3 v4 s.1 s.2 K X13 X22) (v5, I)
set_option maxRecDepth 100000 in
set_option maxHeartbeats 4000000 in
theorem kb_WO_resolve_22 {Z : jZ} {E : jE} (C : jC Z E prog_12_method_12_code 6 "OutOrder$Work" 3 65) (hr : (jZh Z).sig.returnType = none) (hE : E.2.2.2 = jLX)  (h0 : Nat) (h2 : Nat) (v3 : Int32) (v4 : Int32) (v5 : Int32) (I : jM) (g_h0 : jOB E 9 h0) (g_h2 : jOB E 3 h2) {K : jM → Prop} {X13 : Int32 × jM → Prop} (hX13 : ∀ s : Int32 × jM, X13 s → jJ Z E 6 (jQv Z E K) 13 [(0, .ref (E.2.2.1 h0)), (2, .ref (E.2.2.1 h2)), (3, .int v3), (4, .int s.1)] [] s.2) {X22 : Int32 × jM → Prop} (hX22 : ∀ s : Int32 × jM, X22 s → jJ Z E 6 (jQv Z E K) 22 [(0, .ref (E.2.2.1 h0)), (2, .ref (E.2.2.1 h2)), (3, .int v3), (4, .int v4), (5, .int s.1)] [] s.2) (h : WO_resolve_22b h0 h2 v3 v4 v5 I K X13 X22) : jJ Z E 6 (jQv Z E K) 22 [(0, .ref (E.2.2.1 h0)), (2, .ref (E.2.2.1 h2)), (3, .int v3), (4, .int v4), (5, .int v5)] [] I := by
  unfold WO_resolve_22b at h
  refine j_iload C d_WO_resolve_22 4 rfl ?_
  refine j_iload C d_WO_resolve_24 3 rfl ?_
  refine j_icmp_ge C d_WO_resolve_26 (tgt := 72) (by decide) (fun c26 => ?_) (fun c26 => ?_)
  · have h := h.1 c26
    refine j_iinc C d_WO_resolve_72 3 rfl (v := (v4 + 1)) rfl (by decide) (lv' := [(4, .int (v4 + 1)), (0, .ref (E.2.2.1 h0)), (2, .ref (E.2.2.1 h2)), (3, .int v3), (5, .int v5)]) rfl ?_
    refine j_goto C d_WO_resolve_75 (tgt := 13) (by decide) ?_
    refine j_lv [1, 2, 3, 0] rfl ?_
    exact hX13 ((v4 + 1), I) h
  · have h := h.2 c26
    refine j_aload_n C d_WO_resolve_29 rfl 0 rfl ?_
    refine fg_WO_23 C g_h0 d_WO_resolve_30 ?_
    refine j_iload C d_WO_resolve_33 3 rfl ?_
    refine j_aload_n C d_WO_resolve_35 rfl 1 rfl ?_
    refine j_aload_n C d_WO_resolve_36 rfl 0 rfl ?_
    refine fg_WO_23 C g_h0 d_WO_resolve_37 ?_
    refine j_iload C d_WO_resolve_40 3 rfl ?_
    obtain ⟨hi, h⟩ := h
    refine j_iaload C (sh_WO_3 hE g_h0) hi d_WO_resolve_42 ?_
    refine j_aload_n C d_WO_resolve_43 rfl 0 rfl ?_
    refine fg_WO_11 C g_h0 d_WO_resolve_44 ?_
    refine j_iload C d_WO_resolve_47 3 rfl ?_
    obtain ⟨hi_1, h⟩ := h
    refine j_aaload C (sh_WO_0 hE g_h0) hi_1 d_WO_resolve_49 ?_
    refine j_iload C d_WO_resolve_50 4 rfl ?_
    obtain ⟨hi, h⟩ := h
    refine j_iaload C (sr_24_24 hE (sh_WO_0 hE g_h0) hi_1) hi d_WO_resolve_52 ?_
    refine j_aload_n C d_WO_resolve_53 rfl 0 rfl ?_
    refine fg_WO_23 C g_h0 d_WO_resolve_54 ?_
    refine j_iload C d_WO_resolve_57 4 rfl ?_
    obtain ⟨hi, h⟩ := h
    refine j_iaload C (sh_WO_3 hE g_h0) hi d_WO_resolve_59 ?_
    refine j_imul C d_WO_resolve_60 ?_
    refine j_isub C d_WO_resolve_61 ?_
    refine j_callVi (As := [.int ((I (jr h0 3) v4.toNatClampNeg) - ((I (jw (jr h0 0) v4.toNatClampNeg) v5.toNatClampNeg) * (I (jr h0 3) v5.toNatClampNeg)))]) C jcl_MO cw_WO_75 w_370 w_371 g_h2 rfl rfl (by decide) (by decide) (Nat.le_of_ble_eq_true rfl) d_WO_resolve_62 (s_MO_reduce C.ok g_h2 h) (fun r_2 I2 h => ?_)
    obtain ⟨rfl, h⟩ := h
    obtain ⟨hi, h⟩ := h
    refine j_iastore C (sh_WO_3 hE g_h0) hi d_WO_resolve_65 ?_
    have h := h _ rfl
    generalize eI_3 : (jwr I (jr h0 3) v4.toNatClampNeg r_2 : jM) = I_3 at h ⊢
    refine j_iinc C d_WO_resolve_66 4 rfl (v := (v5 + 1)) rfl (by decide) (lv' := [(5, .int (v5 + 1)), (0, .ref (E.2.2.1 h0)), (2, .ref (E.2.2.1 h2)), (3, .int v3), (4, .int v4)]) rfl ?_
    refine j_goto C d_WO_resolve_69 (tgt := 22) (by decide) ?_
    refine j_lv [1, 2, 3, 4, 0] rfl ?_
    exact hX22 ((v5 + 1), I_3) h
theorem k_WO_resolve_22 {Z : jZ} {E : jE} (C : jC Z E prog_12_method_12_code 6 "OutOrder$Work" 3 65) (hr : (jZh Z).sig.returnType = none) (hE : E.2.2.2 = jLX)  (h0 : Nat) (h2 : Nat) (v3 : Int32) (v4 : Int32) (v5 : Int32) (I : jM) (g_h0 : jOB E 9 h0) (g_h2 : jOB E 3 h2) {K : jM → Prop} {X13 : Int32 × jM → Prop} (hX13 : ∀ s : Int32 × jM, X13 s → jJ Z E 6 (jQv Z E K) 13 [(0, .ref (E.2.2.1 h0)), (2, .ref (E.2.2.1 h2)), (3, .int v3), (4, .int s.1)] [] s.2) (h : WO_resolve_22 h0 h2 v3 v4 v5 I K X13) : jJ Z E 6 (jQv Z E K) 22 [(0, .ref (E.2.2.1 h0)), (2, .ref (E.2.2.1 h2)), (3, .int v3), (4, .int v4), (5, .int v5)] [] I := by
  unfold WO_resolve_22 at h
  exact h (fun s => jJ Z E 6 (jQv Z E K) 22 [(0, .ref (E.2.2.1 h0)), (2, .ref (E.2.2.1 h2)), (3, .int v3), (4, .int v4), (5, .int s.1)] [] s.2) (fun s hs => kb_WO_resolve_22 C hr hE h0 h2 v3 v4 s.1 s.2 g_h0 g_h2 hX13 (fun s2 h2 => h2) hs)
def WO_resolve_13b (h0 : Nat) (h2 : Nat) (v3 : Int32) (v4 : Int32) (I : jM) (K : jM → Prop) (X13 : Int32 × jM → Prop) : Prop :=
  ((v3 ≤ v4 → (∀ v4_1 : Int32, v4_1 = (v3 - (1 : Int32)) → WO_resolve_83 h0 h2 v3 v4_1 I K)) ∧ (¬ v3 ≤ v4 → WO_resolve_22 h0 h2 v3 v4 (0 : Int32) I K X13))
def WO_resolve_13 (h0 : Nat) (h2 : Nat) (v3 : Int32) (v4 : Int32) (I : jM) (K : jM → Prop) : Prop :=
  lp (fun (X13 : Int32 × jM → Prop) (s : Int32 × jM) => WO_resolve_13b h0 h2 v3 s.1 s.2 K X13) (v4, I)
set_option maxRecDepth 100000 in
set_option maxHeartbeats 4000000 in
theorem kb_WO_resolve_13 {Z : jZ} {E : jE} (C : jC Z E prog_12_method_12_code 6 "OutOrder$Work" 3 65) (hr : (jZh Z).sig.returnType = none) (hE : E.2.2.2 = jLX)  (h0 : Nat) (h2 : Nat) (v3 : Int32) (v4 : Int32) (I : jM) (g_h0 : jOB E 9 h0) (g_h2 : jOB E 3 h2) {K : jM → Prop} {X13 : Int32 × jM → Prop} (hX13 : ∀ s : Int32 × jM, X13 s → jJ Z E 6 (jQv Z E K) 13 [(0, .ref (E.2.2.1 h0)), (2, .ref (E.2.2.1 h2)), (3, .int v3), (4, .int s.1)] [] s.2) (h : WO_resolve_13b h0 h2 v3 v4 I K X13) : jJ Z E 6 (jQv Z E K) 13 [(0, .ref (E.2.2.1 h0)), (2, .ref (E.2.2.1 h2)), (3, .int v3), (4, .int v4)] [] I := by
  unfold WO_resolve_13b at h
  refine j_iload C d_WO_resolve_13 3 rfl ?_
  refine j_iload_n C d_WO_resolve_15 rfl 2 rfl ?_
  refine j_icmp_ge C d_WO_resolve_16 (tgt := 78) (by decide) (fun c16 => ?_) (fun c16 => ?_)
  · have h := h.1 c16
    refine j_iload_n C d_WO_resolve_78 rfl 2 rfl ?_
    refine j_iconst C d_WO_resolve_79 ic_1 ?_
    refine j_isub C d_WO_resolve_80 ?_
    refine j_topi (fun v4_1 ev4_1 => ?_)
    have h := h v4_1 ev4_1
    refine j_istore C d_WO_resolve_81 (by decide) (lv' := [(4, .int v4_1), (0, .ref (E.2.2.1 h0)), (2, .ref (E.2.2.1 h2)), (3, .int v3)]) rfl ?_
    refine j_lv [1, 2, 3, 0] rfl ?_
    exact k_WO_resolve_83 C hr hE h0 h2 v3 v4_1 I g_h0 g_h2 h
  · have h := h.2 c16
    refine j_iconst C d_WO_resolve_19 ic_0 ?_
    refine j_istore C d_WO_resolve_20 (by decide) (lv' := [(5, .int (0 : Int32)), (0, .ref (E.2.2.1 h0)), (2, .ref (E.2.2.1 h2)), (3, .int v3), (4, .int v4)]) rfl ?_
    refine j_lv [1, 2, 3, 4, 0] rfl ?_
    exact k_WO_resolve_22 C hr hE h0 h2 v3 v4 (0 : Int32) I g_h0 g_h2 hX13 h
theorem k_WO_resolve_13 {Z : jZ} {E : jE} (C : jC Z E prog_12_method_12_code 6 "OutOrder$Work" 3 65) (hr : (jZh Z).sig.returnType = none) (hE : E.2.2.2 = jLX)  (h0 : Nat) (h2 : Nat) (v3 : Int32) (v4 : Int32) (I : jM) (g_h0 : jOB E 9 h0) (g_h2 : jOB E 3 h2) {K : jM → Prop} (h : WO_resolve_13 h0 h2 v3 v4 I K) : jJ Z E 6 (jQv Z E K) 13 [(0, .ref (E.2.2.1 h0)), (2, .ref (E.2.2.1 h2)), (3, .int v3), (4, .int v4)] [] I := by
  unfold WO_resolve_13 at h
  exact h (fun s => jJ Z E 6 (jQv Z E K) 13 [(0, .ref (E.2.2.1 h0)), (2, .ref (E.2.2.1 h2)), (3, .int v3), (4, .int s.1)] [] s.2) (fun s hs => kb_WO_resolve_13 C hr hE h0 h2 v3 s.1 s.2 g_h0 g_h2 (fun s2 h2 => h2) hs)
/-- OutOrder$Work.resolve(LOutOrder$Table;)V -/
def WO_resolve (h0 : Nat) (h1 : Nat) (I : jM) (K : jM → Prop) : Prop :=
  (∀ v3_1 : Int32, v3_1 = (I h1 4) → WO_resolve_13 h0 (jr h1 0) v3_1 (0 : Int32) I K)
set_option maxRecDepth 100000 in
set_option maxHeartbeats 4000000 in
theorem s_WO_resolve {l : Launch} {E : jE} (ok : jOK E) (hE : E.2.2.2 = jLX) {h0 : Nat} {h1 : Nat} (g_h0 : jOB E 9 h0) (g_h1 : jOB E 8 h1) {I : jM} {K : jM → Prop} (h : WO_resolve h0 h1 I K) : jSv l E ⟨"OutOrder$Work", "resolve", "(LOutOrder$Table;)V"⟩ prog_12_method_12_code 6 none 3 65 [.ref (E.2.2.1 h0), .ref (E.2.2.1 h1)] I K := by
  refine jS_ofF (own := "OutOrder$Work") (by decide +kernel) rfl ok (Nat.le_of_ble_eq_true rfl) (fun Z _ C hr => ?_)
  show jJ Z E 6 (jQv Z E K) 0 [(0, .ref (E.2.2.1 h0)), (1, .ref (E.2.2.1 h1))] [] I
  unfold WO_resolve at h
  refine j_aload_n C d_WO_resolve_0 rfl 1 rfl ?_
  refine fg_WO_45 C g_h1 d_WO_resolve_1 ?_
  refine j_astore_n C d_WO_resolve_4 rfl (by decide) (lv' := [(2, .ref (E.2.2.1 (jr h1 0))), (0, .ref (E.2.2.1 h0)), (1, .ref (E.2.2.1 h1))]) rfl ?_
  refine j_aload_n C d_WO_resolve_5 rfl 2 rfl ?_
  refine fg_WO_40 C g_h1 d_WO_resolve_6 ?_
  refine j_topi (fun v3_1 ev3_1 => ?_)
  have h := h v3_1 ev3_1
  refine j_istore_n C d_WO_resolve_9 rfl (by decide) (lv' := [(3, .int v3_1), (2, .ref (E.2.2.1 (jr h1 0))), (0, .ref (E.2.2.1 h0)), (1, .ref (E.2.2.1 h1))]) rfl ?_
  refine j_iconst C d_WO_resolve_10 ic_0 ?_
  refine j_istore C d_WO_resolve_11 (by decide) (lv' := [(4, .int (0 : Int32)), (3, .int v3_1), (2, .ref (E.2.2.1 (jr h1 0))), (0, .ref (E.2.2.1 h0)), (1, .ref (E.2.2.1 h1))]) rfl ?_
  refine j_lv [3, 2, 1, 0] rfl ?_
  exact k_WO_resolve_13 C hr hE h0 (jr h1 0) v3_1 (0 : Int32) I g_h0 (sh_TA_0 hE g_h1) h
theorem d_WO_share_0 : decode prog_12_method_7_code 0 = .ok (.iload_n 1, 1) := by decide +kernel
theorem d_WO_share_1 : decode prog_12_method_7_code 1 = .ok (.iload_n 2, 1) := by decide +kernel
theorem d_WO_share_2 : decode prog_12_method_7_code 2 = .ok (.if_icmp .ne 5, 3) := by decide +kernel
theorem d_WO_share_5 : decode prog_12_method_7_code 5 = .ok (.iconst 1, 1) := by decide +kernel
theorem d_WO_share_6 : decode prog_12_method_7_code 6 = .ok (.ireturn, 1) := by decide +kernel
theorem d_WO_share_7 : decode prog_12_method_7_code 7 = .ok (.iload_n 1, 1) := by decide +kernel
theorem d_WO_share_8 : decode prog_12_method_7_code 8 = .ok (.iload_n 2, 1) := by decide +kernel
theorem d_WO_share_9 : decode prog_12_method_7_code 9 = .ok (.if_icmp .ge 7, 3) := by decide +kernel
theorem d_WO_share_12 : decode prog_12_method_7_code 12 = .ok (.iconst 0, 1) := by decide +kernel
theorem d_WO_share_13 : decode prog_12_method_7_code 13 = .ok (.goto 11, 3) := by decide +kernel
theorem d_WO_share_16 : decode prog_12_method_7_code 16 = .ok (.aload_n 0, 1) := by decide +kernel
theorem d_WO_share_17 : decode prog_12_method_7_code 17 = .ok (.getfield 11, 3) := by decide +kernel
theorem d_WO_share_20 : decode prog_12_method_7_code 20 = .ok (.iload_n 1, 1) := by decide +kernel
theorem d_WO_share_21 : decode prog_12_method_7_code 21 = .ok (.aaload, 1) := by decide +kernel
theorem d_WO_share_22 : decode prog_12_method_7_code 22 = .ok (.iload_n 2, 1) := by decide +kernel
theorem d_WO_share_23 : decode prog_12_method_7_code 23 = .ok (.iaload, 1) := by decide +kernel
theorem d_WO_share_24 : decode prog_12_method_7_code 24 = .ok (.ireturn, 1) := by decide +kernel
/-- OutOrder$Work.share(II)I -/
def WO_share (h0 : Nat) (v1 : Int32) (v2 : Int32) (I : jM) (K : Int32 → Prop) : Prop :=
  ((¬ v1 = v2 → ((v2 ≤ v1 → (vp_in v1 24 ∧ (vp_in v2 24 ∧ K (I (jw (jr h0 0) v1.toNatClampNeg) v2.toNatClampNeg)))) ∧ (¬ v2 ≤ v1 → K (0 : Int32)))) ∧ (v1 = v2 → K (1 : Int32)))
set_option maxRecDepth 100000 in
set_option maxHeartbeats 4000000 in
theorem s_WO_share {l : Launch} {E : jE} (ok : jOK E) (hE : E.2.2.2 = jLX) {h0 : Nat} {v1 : Int32} {v2 : Int32} (g_h0 : jOB E 9 h0) {I : jM} {K : Int32 → Prop} (h : WO_share h0 v1 v2 I K) : jSi l E ⟨"OutOrder$Work", "share", "(II)I"⟩ prog_12_method_7_code 3 (some .int) 0 0 [.ref (E.2.2.1 h0), .int v1, .int v2] I (fun r I2 => I = I2 ∧ K r) := by
  refine jS_ofF (own := "OutOrder$Work") (by decide +kernel) rfl ok (Nat.le_of_ble_eq_true rfl) (fun Z _ C hr => ?_)
  show jJ Z E 3 (jQi Z E (fun r I2 => I = I2 ∧ K r)) 0 [(0, .ref (E.2.2.1 h0)), (1, .int v1), (2, .int v2)] [] I
  unfold WO_share at h
  refine j_iload_n C d_WO_share_0 rfl 1 rfl ?_
  refine j_iload_n C d_WO_share_1 rfl 2 rfl ?_
  refine j_icmp_ne C d_WO_share_2 (tgt := 7) (by decide) (fun c2 => ?_) (fun c2 => ?_)
  · have h := h.1 c2
    refine j_iload_n C d_WO_share_7 rfl 1 rfl ?_
    refine j_iload_n C d_WO_share_8 rfl 2 rfl ?_
    refine j_icmp_ge C d_WO_share_9 (tgt := 16) (by decide) (fun c9 => ?_) (fun c9 => ?_)
    · have h := h.1 c9
      refine j_aload_n C d_WO_share_16 rfl 0 rfl ?_
      refine fg_WO_11 C g_h0 d_WO_share_17 ?_
      refine j_iload_n C d_WO_share_20 rfl 1 rfl ?_
      obtain ⟨hi_1, h⟩ := h
      refine j_aaload C (sh_WO_0 hE g_h0) hi_1 d_WO_share_21 ?_
      refine j_iload_n C d_WO_share_22 rfl 2 rfl ?_
      obtain ⟨hi, h⟩ := h
      refine j_iaload C (sr_24_24 hE (sh_WO_0 hE g_h0) hi_1) hi d_WO_share_23 ?_
      exact j_iret C hr d_WO_share_24 ⟨rfl, h⟩
    · have h := h.2 c9
      refine j_iconst C d_WO_share_12 ic_0 ?_
      refine j_goto C d_WO_share_13 (tgt := 24) (by decide) ?_
      exact j_iret C hr d_WO_share_24 ⟨rfl, h⟩
  · have h := h.2 c2
    refine j_iconst C d_WO_share_5 ic_1 ?_
    exact j_iret C hr d_WO_share_6 ⟨rfl, h⟩
theorem d_WO_takeSides_0 : decode prog_12_method_10_code 0 = .ok (.iconst 0, 1) := by decide +kernel
theorem d_WO_takeSides_1 : decode prog_12_method_10_code 1 = .ok (.istore_n 3, 1) := by decide +kernel
theorem d_WO_takeSides_2 : decode prog_12_method_10_code 2 = .ok (.iload_n 3, 1) := by decide +kernel
theorem d_WO_takeSides_3 : decode prog_12_method_10_code 3 = .ok (.aload_n 1, 1) := by decide +kernel
theorem d_WO_takeSides_4 : decode prog_12_method_10_code 4 = .ok (.getfield 40, 3) := by decide +kernel
theorem d_WO_takeSides_7 : decode prog_12_method_10_code 7 = .ok (.if_icmp .ge 26, 3) := by decide +kernel
theorem d_WO_takeSides_10 : decode prog_12_method_10_code 10 = .ok (.aload_n 0, 1) := by decide +kernel
theorem d_WO_takeSides_11 : decode prog_12_method_10_code 11 = .ok (.getfield 23, 3) := by decide +kernel
theorem d_WO_takeSides_14 : decode prog_12_method_10_code 14 = .ok (.iload_n 3, 1) := by decide +kernel
theorem d_WO_takeSides_15 : decode prog_12_method_10_code 15 = .ok (.aload_n 1, 1) := by decide +kernel
theorem d_WO_takeSides_16 : decode prog_12_method_10_code 16 = .ok (.getfield 78, 3) := by decide +kernel
theorem d_WO_takeSides_19 : decode prog_12_method_10_code 19 = .ok (.aload_n 2, 1) := by decide +kernel
theorem d_WO_takeSides_20 : decode prog_12_method_10_code 20 = .ok (.getfield 66, 3) := by decide +kernel
theorem d_WO_takeSides_23 : decode prog_12_method_10_code 23 = .ok (.iload_n 3, 1) := by decide +kernel
theorem d_WO_takeSides_24 : decode prog_12_method_10_code 24 = .ok (.iaload, 1) := by decide +kernel
theorem d_WO_takeSides_25 : decode prog_12_method_10_code 25 = .ok (.iaload, 1) := by decide +kernel
theorem d_WO_takeSides_26 : decode prog_12_method_10_code 26 = .ok (.iastore, 1) := by decide +kernel
theorem d_WO_takeSides_27 : decode prog_12_method_10_code 27 = .ok (.iinc 3 1, 3) := by decide +kernel
theorem d_WO_takeSides_30 : decode prog_12_method_10_code 30 = .ok (.goto (-28), 3) := by decide +kernel
theorem d_WO_takeSides_33 : decode prog_12_method_10_code 33 = .ok (.return_, 1) := by decide +kernel
def WO_takeSides_2b (h0 : Nat) (h1 : Nat) (h2 : Nat) (v3 : Int32) (I : jM) (K : jM → Prop) (X2 : Int32 × jM → Prop) : Prop :=
  (((I h1 4) ≤ v3 → K I) ∧ (¬ (I h1 4) ≤ v3 → (vp_in v3 24 ∧ (vp_in (I (jr h2 0) v3.toNatClampNeg) 24 ∧ (vp_in v3 24 ∧ (∀ I_1 : jM, I_1 = jwr I (jr h0 3) v3.toNatClampNeg (I (jr h1 3) (I (jr h2 0) v3.toNatClampNeg).toNatClampNeg) → X2 ((v3 + 1), I_1)))))))
def WO_takeSides_2 (h0 : Nat) (h1 : Nat) (h2 : Nat) (v3 : Int32) (I : jM) (K : jM → Prop) : Prop :=
  lp (fun (X2 : Int32 × jM → Prop) (s : Int32 × jM) => WO_takeSides_2b h0 h1 h2 s.1 s.2 K X2) (v3, I)
set_option maxRecDepth 100000 in
set_option maxHeartbeats 4000000 in
theorem kb_WO_takeSides_2 {Z : jZ} {E : jE} (C : jC Z E prog_12_method_10_code 4 "OutOrder$Work" 0 0) (hr : (jZh Z).sig.returnType = none) (hE : E.2.2.2 = jLX)  (h0 : Nat) (h1 : Nat) (h2 : Nat) (v3 : Int32) (I : jM) (g_h0 : jOB E 9 h0) (g_h1 : jOB E 8 h1) (g_h2 : jOB E 6 h2) {K : jM → Prop} {X2 : Int32 × jM → Prop} (hX2 : ∀ s : Int32 × jM, X2 s → jJ Z E 4 (jQv Z E K) 2 [(0, .ref (E.2.2.1 h0)), (1, .ref (E.2.2.1 h1)), (2, .ref (E.2.2.1 h2)), (3, .int s.1)] [] s.2) (h : WO_takeSides_2b h0 h1 h2 v3 I K X2) : jJ Z E 4 (jQv Z E K) 2 [(0, .ref (E.2.2.1 h0)), (1, .ref (E.2.2.1 h1)), (2, .ref (E.2.2.1 h2)), (3, .int v3)] [] I := by
  unfold WO_takeSides_2b at h
  refine j_iload_n C d_WO_takeSides_2 rfl 3 rfl ?_
  refine j_aload_n C d_WO_takeSides_3 rfl 1 rfl ?_
  refine fg_WO_40 C g_h1 d_WO_takeSides_4 ?_
  refine j_icmp_ge C d_WO_takeSides_7 (tgt := 33) (by decide) (fun c7 => ?_) (fun c7 => ?_)
  · have h := h.1 c7
    exact j_vret C hr d_WO_takeSides_33 h
  · have h := h.2 c7
    refine j_aload_n C d_WO_takeSides_10 rfl 0 rfl ?_
    refine fg_WO_23 C g_h0 d_WO_takeSides_11 ?_
    refine j_iload_n C d_WO_takeSides_14 rfl 3 rfl ?_
    refine j_aload_n C d_WO_takeSides_15 rfl 1 rfl ?_
    refine fg_WO_78 C g_h1 d_WO_takeSides_16 ?_
    refine j_aload_n C d_WO_takeSides_19 rfl 2 rfl ?_
    refine fg_WO_66 C g_h2 d_WO_takeSides_20 ?_
    refine j_iload_n C d_WO_takeSides_23 rfl 3 rfl ?_
    obtain ⟨hi, h⟩ := h
    refine j_iaload C (sh_RO_0 hE g_h2) hi d_WO_takeSides_24 ?_
    obtain ⟨hi, h⟩ := h
    refine j_iaload C (sh_TA_3 hE g_h1) hi d_WO_takeSides_25 ?_
    obtain ⟨hi, h⟩ := h
    refine j_iastore C (sh_WO_3 hE g_h0) hi d_WO_takeSides_26 ?_
    have h := h _ rfl
    generalize eI_1 : (jwr I (jr h0 3) v3.toNatClampNeg (I (jr h1 3) (I (jr h2 0) v3.toNatClampNeg).toNatClampNeg) : jM) = I_1 at h ⊢
    refine j_iinc C d_WO_takeSides_27 3 rfl (v := (v3 + 1)) rfl (by decide) (lv' := [(3, .int (v3 + 1)), (0, .ref (E.2.2.1 h0)), (1, .ref (E.2.2.1 h1)), (2, .ref (E.2.2.1 h2))]) rfl ?_
    refine j_goto C d_WO_takeSides_30 (tgt := 2) (by decide) ?_
    refine j_lv [1, 2, 3, 0] rfl ?_
    exact hX2 ((v3 + 1), I_1) h
theorem k_WO_takeSides_2 {Z : jZ} {E : jE} (C : jC Z E prog_12_method_10_code 4 "OutOrder$Work" 0 0) (hr : (jZh Z).sig.returnType = none) (hE : E.2.2.2 = jLX)  (h0 : Nat) (h1 : Nat) (h2 : Nat) (v3 : Int32) (I : jM) (g_h0 : jOB E 9 h0) (g_h1 : jOB E 8 h1) (g_h2 : jOB E 6 h2) {K : jM → Prop} (h : WO_takeSides_2 h0 h1 h2 v3 I K) : jJ Z E 4 (jQv Z E K) 2 [(0, .ref (E.2.2.1 h0)), (1, .ref (E.2.2.1 h1)), (2, .ref (E.2.2.1 h2)), (3, .int v3)] [] I := by
  unfold WO_takeSides_2 at h
  exact h (fun s => jJ Z E 4 (jQv Z E K) 2 [(0, .ref (E.2.2.1 h0)), (1, .ref (E.2.2.1 h1)), (2, .ref (E.2.2.1 h2)), (3, .int s.1)] [] s.2) (fun s hs => kb_WO_takeSides_2 C hr hE h0 h1 h2 s.1 s.2 g_h0 g_h1 g_h2 (fun s2 h2 => h2) hs)
/-- OutOrder$Work.takeSides(LOutOrder$Table;LOutOrder$Row;)V -/
def WO_takeSides (h0 : Nat) (h1 : Nat) (h2 : Nat) (I : jM) (K : jM → Prop) : Prop :=
  WO_takeSides_2 h0 h1 h2 (0 : Int32) I K
set_option maxRecDepth 100000 in
set_option maxHeartbeats 4000000 in
theorem s_WO_takeSides {l : Launch} {E : jE} (ok : jOK E) (hE : E.2.2.2 = jLX) {h0 : Nat} {h1 : Nat} {h2 : Nat} (g_h0 : jOB E 9 h0) (g_h1 : jOB E 8 h1) (g_h2 : jOB E 6 h2) {I : jM} {K : jM → Prop} (h : WO_takeSides h0 h1 h2 I K) : jSv l E ⟨"OutOrder$Work", "takeSides", "(LOutOrder$Table;LOutOrder$Row;)V"⟩ prog_12_method_10_code 4 none 0 0 [.ref (E.2.2.1 h0), .ref (E.2.2.1 h1), .ref (E.2.2.1 h2)] I K := by
  refine jS_ofF (own := "OutOrder$Work") (by decide +kernel) rfl ok (Nat.le_of_ble_eq_true rfl) (fun Z _ C hr => ?_)
  show jJ Z E 4 (jQv Z E K) 0 [(0, .ref (E.2.2.1 h0)), (1, .ref (E.2.2.1 h1)), (2, .ref (E.2.2.1 h2))] [] I
  unfold WO_takeSides at h
  refine j_iconst C d_WO_takeSides_0 ic_0 ?_
  refine j_istore_n C d_WO_takeSides_1 rfl (by decide) (lv' := [(3, .int (0 : Int32)), (0, .ref (E.2.2.1 h0)), (1, .ref (E.2.2.1 h1)), (2, .ref (E.2.2.1 h2))]) rfl ?_
  refine j_lv [1, 2, 3, 0] rfl ?_
  exact k_WO_takeSides_2 C hr hE h0 h1 h2 (0 : Int32) I g_h0 g_h1 g_h2 h
theorem d_WO_takeSingle_0 : decode prog_12_method_11_code 0 = .ok (.iconst 0, 1) := by decide +kernel
theorem d_WO_takeSingle_1 : decode prog_12_method_11_code 1 = .ok (.istore_n 3, 1) := by decide +kernel
theorem d_WO_takeSingle_2 : decode prog_12_method_11_code 2 = .ok (.iload_n 3, 1) := by decide +kernel
theorem d_WO_takeSingle_3 : decode prog_12_method_11_code 3 = .ok (.iload_n 1, 1) := by decide +kernel
theorem d_WO_takeSingle_4 : decode prog_12_method_11_code 4 = .ok (.if_icmp .ge 25, 3) := by decide +kernel
theorem d_WO_takeSingle_7 : decode prog_12_method_11_code 7 = .ok (.aload_n 0, 1) := by decide +kernel
theorem d_WO_takeSingle_8 : decode prog_12_method_11_code 8 = .ok (.getfield 23, 3) := by decide +kernel
theorem d_WO_takeSingle_11 : decode prog_12_method_11_code 11 = .ok (.iload_n 3, 1) := by decide +kernel
theorem d_WO_takeSingle_12 : decode prog_12_method_11_code 12 = .ok (.iload_n 3, 1) := by decide +kernel
theorem d_WO_takeSingle_13 : decode prog_12_method_11_code 13 = .ok (.iload_n 2, 1) := by decide +kernel
theorem d_WO_takeSingle_14 : decode prog_12_method_11_code 14 = .ok (.if_icmp .ne 7, 3) := by decide +kernel
theorem d_WO_takeSingle_17 : decode prog_12_method_11_code 17 = .ok (.iconst 1, 1) := by decide +kernel
theorem d_WO_takeSingle_18 : decode prog_12_method_11_code 18 = .ok (.goto 4, 3) := by decide +kernel
theorem d_WO_takeSingle_21 : decode prog_12_method_11_code 21 = .ok (.iconst 0, 1) := by decide +kernel
theorem d_WO_takeSingle_22 : decode prog_12_method_11_code 22 = .ok (.iastore, 1) := by decide +kernel
theorem d_WO_takeSingle_23 : decode prog_12_method_11_code 23 = .ok (.iinc 3 1, 3) := by decide +kernel
theorem d_WO_takeSingle_26 : decode prog_12_method_11_code 26 = .ok (.goto (-24), 3) := by decide +kernel
theorem d_WO_takeSingle_29 : decode prog_12_method_11_code 29 = .ok (.return_, 1) := by decide +kernel
def WO_takeSingle_2b (h0 : Nat) (v1 : Int32) (v2 : Int32) (v3 : Int32) (I : jM) (K : jM → Prop) (X2 : Int32 × jM → Prop) : Prop :=
  ((v1 ≤ v3 → K I) ∧ (¬ v1 ≤ v3 → ((¬ v3 = v2 → (vp_in v3 24 ∧ (∀ I_1 : jM, I_1 = jwr I (jr h0 3) v3.toNatClampNeg (0 : Int32) → X2 ((v3 + 1), I_1)))) ∧ (v3 = v2 → (vp_in v3 24 ∧ (∀ I_2 : jM, I_2 = jwr I (jr h0 3) v3.toNatClampNeg (1 : Int32) → X2 ((v3 + 1), I_2)))))))
def WO_takeSingle_2 (h0 : Nat) (v1 : Int32) (v2 : Int32) (v3 : Int32) (I : jM) (K : jM → Prop) : Prop :=
  lp (fun (X2 : Int32 × jM → Prop) (s : Int32 × jM) => WO_takeSingle_2b h0 v1 v2 s.1 s.2 K X2) (v3, I)
set_option maxRecDepth 100000 in
set_option maxHeartbeats 4000000 in
theorem kb_WO_takeSingle_2 {Z : jZ} {E : jE} (C : jC Z E prog_12_method_11_code 4 "OutOrder$Work" 0 0) (hr : (jZh Z).sig.returnType = none) (hE : E.2.2.2 = jLX)  (h0 : Nat) (v1 : Int32) (v2 : Int32) (v3 : Int32) (I : jM) (g_h0 : jOB E 9 h0) {K : jM → Prop} {X2 : Int32 × jM → Prop} (hX2 : ∀ s : Int32 × jM, X2 s → jJ Z E 4 (jQv Z E K) 2 [(0, .ref (E.2.2.1 h0)), (1, .int v1), (2, .int v2), (3, .int s.1)] [] s.2) (h : WO_takeSingle_2b h0 v1 v2 v3 I K X2) : jJ Z E 4 (jQv Z E K) 2 [(0, .ref (E.2.2.1 h0)), (1, .int v1), (2, .int v2), (3, .int v3)] [] I := by
  unfold WO_takeSingle_2b at h
  refine j_iload_n C d_WO_takeSingle_2 rfl 3 rfl ?_
  refine j_iload_n C d_WO_takeSingle_3 rfl 1 rfl ?_
  refine j_icmp_ge C d_WO_takeSingle_4 (tgt := 29) (by decide) (fun c4 => ?_) (fun c4 => ?_)
  · have h := h.1 c4
    exact j_vret C hr d_WO_takeSingle_29 h
  · have h := h.2 c4
    refine j_aload_n C d_WO_takeSingle_7 rfl 0 rfl ?_
    refine fg_WO_23 C g_h0 d_WO_takeSingle_8 ?_
    refine j_iload_n C d_WO_takeSingle_11 rfl 3 rfl ?_
    refine j_iload_n C d_WO_takeSingle_12 rfl 3 rfl ?_
    refine j_iload_n C d_WO_takeSingle_13 rfl 2 rfl ?_
    refine j_icmp_ne C d_WO_takeSingle_14 (tgt := 21) (by decide) (fun c14 => ?_) (fun c14 => ?_)
    · have h := h.1 c14
      refine j_iconst C d_WO_takeSingle_21 ic_0 ?_
      obtain ⟨hi, h⟩ := h
      refine j_iastore C (sh_WO_3 hE g_h0) hi d_WO_takeSingle_22 ?_
      have h := h _ rfl
      generalize eI_1 : (jwr I (jr h0 3) v3.toNatClampNeg (0 : Int32) : jM) = I_1 at h ⊢
      refine j_iinc C d_WO_takeSingle_23 3 rfl (v := (v3 + 1)) rfl (by decide) (lv' := [(3, .int (v3 + 1)), (0, .ref (E.2.2.1 h0)), (1, .int v1), (2, .int v2)]) rfl ?_
      refine j_goto C d_WO_takeSingle_26 (tgt := 2) (by decide) ?_
      refine j_lv [1, 2, 3, 0] rfl ?_
      exact hX2 ((v3 + 1), I_1) h
    · have h := h.2 c14
      refine j_iconst C d_WO_takeSingle_17 ic_1 ?_
      refine j_goto C d_WO_takeSingle_18 (tgt := 22) (by decide) ?_
      obtain ⟨hi, h⟩ := h
      refine j_iastore C (sh_WO_3 hE g_h0) hi d_WO_takeSingle_22 ?_
      have h := h _ rfl
      generalize eI_2 : (jwr I (jr h0 3) v3.toNatClampNeg (1 : Int32) : jM) = I_2 at h ⊢
      refine j_iinc C d_WO_takeSingle_23 3 rfl (v := (v3 + 1)) rfl (by decide) (lv' := [(3, .int (v3 + 1)), (0, .ref (E.2.2.1 h0)), (1, .int v1), (2, .int v2)]) rfl ?_
      refine j_goto C d_WO_takeSingle_26 (tgt := 2) (by decide) ?_
      refine j_lv [1, 2, 3, 0] rfl ?_
      exact hX2 ((v3 + 1), I_2) h
theorem k_WO_takeSingle_2 {Z : jZ} {E : jE} (C : jC Z E prog_12_method_11_code 4 "OutOrder$Work" 0 0) (hr : (jZh Z).sig.returnType = none) (hE : E.2.2.2 = jLX)  (h0 : Nat) (v1 : Int32) (v2 : Int32) (v3 : Int32) (I : jM) (g_h0 : jOB E 9 h0) {K : jM → Prop} (h : WO_takeSingle_2 h0 v1 v2 v3 I K) : jJ Z E 4 (jQv Z E K) 2 [(0, .ref (E.2.2.1 h0)), (1, .int v1), (2, .int v2), (3, .int v3)] [] I := by
  unfold WO_takeSingle_2 at h
  exact h (fun s => jJ Z E 4 (jQv Z E K) 2 [(0, .ref (E.2.2.1 h0)), (1, .int v1), (2, .int v2), (3, .int s.1)] [] s.2) (fun s hs => kb_WO_takeSingle_2 C hr hE h0 v1 v2 s.1 s.2 g_h0 (fun s2 h2 => h2) hs)
/-- OutOrder$Work.takeSingle(II)V -/
def WO_takeSingle (h0 : Nat) (v1 : Int32) (v2 : Int32) (I : jM) (K : jM → Prop) : Prop :=
  WO_takeSingle_2 h0 v1 v2 (0 : Int32) I K
set_option maxRecDepth 100000 in
set_option maxHeartbeats 4000000 in
theorem s_WO_takeSingle {l : Launch} {E : jE} (ok : jOK E) (hE : E.2.2.2 = jLX) {h0 : Nat} {v1 : Int32} {v2 : Int32} (g_h0 : jOB E 9 h0) {I : jM} {K : jM → Prop} (h : WO_takeSingle h0 v1 v2 I K) : jSv l E ⟨"OutOrder$Work", "takeSingle", "(II)V"⟩ prog_12_method_11_code 4 none 0 0 [.ref (E.2.2.1 h0), .int v1, .int v2] I K := by
  refine jS_ofF (own := "OutOrder$Work") (by decide +kernel) rfl ok (Nat.le_of_ble_eq_true rfl) (fun Z _ C hr => ?_)
  show jJ Z E 4 (jQv Z E K) 0 [(0, .ref (E.2.2.1 h0)), (1, .int v1), (2, .int v2)] [] I
  unfold WO_takeSingle at h
  refine j_iconst C d_WO_takeSingle_0 ic_0 ?_
  refine j_istore_n C d_WO_takeSingle_1 rfl (by decide) (lv' := [(3, .int (0 : Int32)), (0, .ref (E.2.2.1 h0)), (1, .int v1), (2, .int v2)]) rfl ?_
  refine j_lv [1, 2, 3, 0] rfl ?_
  exact k_WO_takeSingle_2 C hr hE h0 v1 v2 (0 : Int32) I g_h0 h
