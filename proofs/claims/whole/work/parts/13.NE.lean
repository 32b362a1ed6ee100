theorem d_NE_copyWithout_0 : decode prog_6_method_6_code 0 = .ok (.aload_n 1, 1) := by decide +kernel
theorem d_NE_copyWithout_1 : decode prog_6_method_6_code 1 = .ok (.iload_n 0, 1) := by decide +kernel
theorem d_NE_copyWithout_2 : decode prog_6_method_6_code 2 = .ok (.iaload, 1) := by decide +kernel
theorem d_NE_copyWithout_3 : decode prog_6_method_6_code 3 = .ok (.istore 4, 2) := by decide +kernel
theorem d_NE_copyWithout_5 : decode prog_6_method_6_code 5 = .ok (.iconst 0, 1) := by decide +kernel
theorem d_NE_copyWithout_6 : decode prog_6_method_6_code 6 = .ok (.istore 5, 2) := by decide +kernel
theorem d_NE_copyWithout_8 : decode prog_6_method_6_code 8 = .ok (.iload 5, 2) := by decide +kernel
theorem d_NE_copyWithout_10 : decode prog_6_method_6_code 10 = .ok (.iload_n 3, 1) := by decide +kernel
theorem d_NE_copyWithout_11 : decode prog_6_method_6_code 11 = .ok (.if_icmp .ge 61, 3) := by decide +kernel
theorem d_NE_copyWithout_14 : decode prog_6_method_6_code 14 = .ok (.iload 4, 2) := by decide +kernel
theorem d_NE_copyWithout_16 : decode prog_6_method_6_code 16 = .ok (.iload 5, 2) := by decide +kernel
theorem d_NE_copyWithout_18 : decode prog_6_method_6_code 18 = .ok (.ishr, 1) := by decide +kernel
theorem d_NE_copyWithout_19 : decode prog_6_method_6_code 19 = .ok (.iconst 1, 1) := by decide +kernel
theorem d_NE_copyWithout_20 : decode prog_6_method_6_code 20 = .ok (.iand, 1) := by decide +kernel
theorem d_NE_copyWithout_21 : decode prog_6_method_6_code 21 = .ok (.iconst 1, 1) := by decide +kernel
theorem d_NE_copyWithout_22 : decode prog_6_method_6_code 22 = .ok (.if_icmp .ne 7, 3) := by decide +kernel
theorem d_NE_copyWithout_25 : decode prog_6_method_6_code 25 = .ok (.iconst 1, 1) := by decide +kernel
theorem d_NE_copyWithout_26 : decode prog_6_method_6_code 26 = .ok (.goto 4, 3) := by decide +kernel
theorem d_NE_copyWithout_29 : decode prog_6_method_6_code 29 = .ok (.iconst 0, 1) := by decide +kernel
theorem d_NE_copyWithout_30 : decode prog_6_method_6_code 30 = .ok (.istore 6, 2) := by decide +kernel
theorem d_NE_copyWithout_32 : decode prog_6_method_6_code 32 = .ok (.aload_n 2, 1) := by decide +kernel
theorem d_NE_copyWithout_33 : decode prog_6_method_6_code 33 = .ok (.iload 5, 2) := by decide +kernel
theorem d_NE_copyWithout_35 : decode prog_6_method_6_code 35 = .ok (.iload 6, 2) := by decide +kernel
theorem d_NE_copyWithout_37 : decode prog_6_method_6_code 37 = .ok (.ifCond .eq 24, 3) := by decide +kernel
theorem d_NE_copyWithout_40 : decode prog_6_method_6_code 40 = .ok (.aload_n 1, 1) := by decide +kernel
theorem d_NE_copyWithout_41 : decode prog_6_method_6_code 41 = .ok (.iload 5, 2) := by decide +kernel
theorem d_NE_copyWithout_43 : decode prog_6_method_6_code 43 = .ok (.iaload, 1) := by decide +kernel
theorem d_NE_copyWithout_44 : decode prog_6_method_6_code 44 = .ok (.iload 4, 2) := by decide +kernel
theorem d_NE_copyWithout_46 : decode prog_6_method_6_code 46 = .ok (.ior, 1) := by decide +kernel
theorem d_NE_copyWithout_47 : decode prog_6_method_6_code 47 = .ok (.iconst 1, 1) := by decide +kernel
theorem d_NE_copyWithout_48 : decode prog_6_method_6_code 48 = .ok (.iload 5, 2) := by decide +kernel
theorem d_NE_copyWithout_50 : decode prog_6_method_6_code 50 = .ok (.ishl, 1) := by decide +kernel
theorem d_NE_copyWithout_51 : decode prog_6_method_6_code 51 = .ok (.iconst 1, 1) := by decide +kernel
theorem d_NE_copyWithout_52 : decode prog_6_method_6_code 52 = .ok (.iload_n 0, 1) := by decide +kernel
theorem d_NE_copyWithout_53 : decode prog_6_method_6_code 53 = .ok (.ishl, 1) := by decide +kernel
theorem d_NE_copyWithout_54 : decode prog_6_method_6_code 54 = .ok (.ior, 1) := by decide +kernel
theorem d_NE_copyWithout_55 : decode prog_6_method_6_code 55 = .ok (.iconst (-1), 1) := by decide +kernel
theorem d_NE_copyWithout_56 : decode prog_6_method_6_code 56 = .ok (.ixor, 1) := by decide +kernel
theorem d_NE_copyWithout_57 : decode prog_6_method_6_code 57 = .ok (.iand, 1) := by decide +kernel
theorem d_NE_copyWithout_58 : decode prog_6_method_6_code 58 = .ok (.goto 7, 3) := by decide +kernel
theorem d_NE_copyWithout_61 : decode prog_6_method_6_code 61 = .ok (.aload_n 1, 1) := by decide +kernel
theorem d_NE_copyWithout_62 : decode prog_6_method_6_code 62 = .ok (.iload 5, 2) := by decide +kernel
theorem d_NE_copyWithout_64 : decode prog_6_method_6_code 64 = .ok (.iaload, 1) := by decide +kernel
theorem d_NE_copyWithout_65 : decode prog_6_method_6_code 65 = .ok (.iastore, 1) := by decide +kernel
theorem d_NE_copyWithout_66 : decode prog_6_method_6_code 66 = .ok (.iinc 5 1, 3) := by decide +kernel
theorem d_NE_copyWithout_69 : decode prog_6_method_6_code 69 = .ok (.goto (-61), 3) := by decide +kernel
theorem d_NE_copyWithout_72 : decode prog_6_method_6_code 72 = .ok (.return_, 1) := by decide +kernel
def NE_copyWithout_30 (v0 : Int32) (h1 : Nat) (h2 : Nat) (v3 : Int32) (v4 : Int32) (v5 : Int32) (s0 : Int32) (I : jM) (K : jM → Prop) (X8 : Int32 × jM → Prop) : Prop :=
  ((s0 = 0 → (vp_in v5 (jl h1) ∧ (vp_in v5 (jl h2) ∧ (∀ I_1 : jM, I_1 = jwr I h2 v5.toNatClampNeg (I h1 v5.toNatClampNeg) → X8 ((v5 + 1), I_1))))) ∧ (¬ s0 = 0 → (vp_in v5 (jl h1) ∧ (vp_in v5 (jl h2) ∧ (∀ I_2 : jM, I_2 = jwr I h2 v5.toNatClampNeg (((I h1 v5.toNatClampNeg) ||| v4) &&& ((((1 : Int32) <<< (v5 &&& 31)) ||| ((1 : Int32) <<< (v0 &&& 31))) ^^^ (-1 : Int32))) → X8 ((v5 + 1), I_2))))))
set_option maxRecDepth 100000 in
set_option maxHeartbeats 4000000 in
theorem k_NE_copyWithout_30 {Z : jZ} {E : jE} (C : jC Z E prog_6_method_6_code 7 "OutOrder$Net" 0 0) (hr : (jZh Z).sig.returnType = none)  (v0 : Int32) (h1 : Nat) (h2 : Nat) (v3 : Int32) (v4 : Int32) (v5 : Int32) (s0 : Int32) (I : jM) (g_h1 : jAI E (jl h1) h1) (g_h2 : jAI E (jl h2) h2) {K : jM → Prop} {X8 : Int32 × jM → Prop} (hX8 : ∀ s : Int32 × jM, X8 s → jJ Z E 7 (jQv Z E K) 8 [(0, .int v0), (1, .ref (E.2.2.1 h1)), (2, .ref (E.2.2.1 h2)), (3, .int v3), (4, .int v4), (5, .int s.1)] [] s.2) (h : NE_copyWithout_30 v0 h1 h2 v3 v4 v5 s0 I K X8) : jJ Z E 7 (jQv Z E K) 30 [(0, .int v0), (1, .ref (E.2.2.1 h1)), (2, .ref (E.2.2.1 h2)), (3, .int v3), (4, .int v4), (5, .int v5)] [.int s0] I := by
  unfold NE_copyWithout_30 at h
  refine j_istore C d_NE_copyWithout_30 (by decide) (lv' := [(6, .int s0), (0, .int v0), (1, .ref (E.2.2.1 h1)), (2, .ref (E.2.2.1 h2)), (3, .int v3), (4, .int v4), (5, .int v5)]) rfl ?_
  refine j_aload_n C d_NE_copyWithout_32 rfl 3 rfl ?_
  refine j_iload C d_NE_copyWithout_33 6 rfl ?_
  refine j_iload C d_NE_copyWithout_35 0 rfl ?_
  refine j_if_eq C d_NE_copyWithout_37 (tgt := 61) (by decide) (fun c37 => ?_) (fun c37 => ?_)
  · have h := h.1 c37
    refine j_aload_n C d_NE_copyWithout_61 rfl 2 rfl ?_
    refine j_iload C d_NE_copyWithout_62 6 rfl ?_
    obtain ⟨hi, h⟩ := h
    refine j_iaload C g_h1 hi d_NE_copyWithout_64 ?_
    obtain ⟨hi, h⟩ := h
    refine j_iastore C g_h2 hi d_NE_copyWithout_65 ?_
    have h := h _ rfl
    generalize eI_1 : (jwr I h2 v5.toNatClampNeg (I h1 v5.toNatClampNeg) : jM) = I_1 at h ⊢
    refine j_iinc C d_NE_copyWithout_66 6 rfl (v := (v5 + 1)) rfl (by decide) (lv' := [(5, .int (v5 + 1)), (6, .int s0), (0, .int v0), (1, .ref (E.2.2.1 h1)), (2, .ref (E.2.2.1 h2)), (3, .int v3), (4, .int v4)]) rfl ?_
    refine j_goto C d_NE_copyWithout_69 (tgt := 8) (by decide) ?_
    refine j_lv [2, 3, 4, 5, 6, 0] rfl ?_
    exact hX8 ((v5 + 1), I_1) h
  · have h := h.2 c37
    refine j_aload_n C d_NE_copyWithout_40 rfl 2 rfl ?_
    refine j_iload C d_NE_copyWithout_41 6 rfl ?_
    obtain ⟨hi, h⟩ := h
    refine j_iaload C g_h1 hi d_NE_copyWithout_43 ?_
    refine j_iload C d_NE_copyWithout_44 5 rfl ?_
    refine j_ior C d_NE_copyWithout_46 ?_
    refine j_iconst C d_NE_copyWithout_47 ic_1 ?_
    refine j_iload C d_NE_copyWithout_48 6 rfl ?_
    refine j_ishl C d_NE_copyWithout_50 ?_
    refine j_iconst C d_NE_copyWithout_51 ic_1 ?_
    refine j_iload_n C d_NE_copyWithout_52 rfl 1 rfl ?_
    refine j_ishl C d_NE_copyWithout_53 ?_
    refine j_ior C d_NE_copyWithout_54 ?_
    refine j_iconst C d_NE_copyWithout_55 ic_m1 ?_
    refine j_ixor C d_NE_copyWithout_56 ?_
    refine j_iand C d_NE_copyWithout_57 ?_
    refine j_goto C d_NE_copyWithout_58 (tgt := 65) (by decide) ?_
    obtain ⟨hi, h⟩ := h
    refine j_iastore C g_h2 hi d_NE_copyWithout_65 ?_
    have h := h _ rfl
    generalize eI_2 : (jwr I h2 v5.toNatClampNeg (((I h1 v5.toNatClampNeg) ||| v4) &&& ((((1 : Int32) <<< (v5 &&& 31)) ||| ((1 : Int32) <<< (v0 &&& 31))) ^^^ (-1 : Int32))) : jM) = I_2 at h ⊢
    refine j_iinc C d_NE_copyWithout_66 6 rfl (v := (v5 + 1)) rfl (by decide) (lv' := [(5, .int (v5 + 1)), (6, .int s0), (0, .int v0), (1, .ref (E.2.2.1 h1)), (2, .ref (E.2.2.1 h2)), (3, .int v3), (4, .int v4)]) rfl ?_
    refine j_goto C d_NE_copyWithout_69 (tgt := 8) (by decide) ?_
    refine j_lv [2, 3, 4, 5, 6, 0] rfl ?_
    exact hX8 ((v5 + 1), I_2) h
def NE_copyWithout_8b (v0 : Int32) (h1 : Nat) (h2 : Nat) (v3 : Int32) (v4 : Int32) (v5 : Int32) (I : jM) (K : jM → Prop) (X8 : Int32 × jM → Prop) : Prop :=
  ((v3 ≤ v5 → K I) ∧ (¬ v3 ≤ v5 → ((¬ ((v4 >>> (v5 &&& 31)) &&& (1 : Int32)) = (1 : Int32) → NE_copyWithout_30 v0 h1 h2 v3 v4 v5 (0 : Int32) I K X8) ∧ (((v4 >>> (v5 &&& 31)) &&& (1 : Int32)) = (1 : Int32) → NE_copyWithout_30 v0 h1 h2 v3 v4 v5 (1 : Int32) I K X8))))
def NE_copyWithout_8 (v0 : Int32) (h1 : Nat) (h2 : Nat) (v3 : Int32) (v4 : Int32) (v5 : Int32) (I : jM) (K : jM → Prop) : Prop :=
  lp (fun (X8 : Int32 × jM → Prop) (s : Int32 × jM) => NE_copyWithout_8b v0 h1 h2 v3 v4 s.1 s.2 K X8) (v5, I)
set_option maxRecDepth 100000 in
set_option maxHeartbeats 4000000 in
theorem kb_NE_copyWithout_8 {Z : jZ} {E : jE} (C : jC Z E prog_6_method_6_code 7 "OutOrder$Net" 0 0) (hr : (jZh Z).sig.returnType = none)  (v0 : Int32) (h1 : Nat) (h2 : Nat) (v3 : Int32) (v4 : Int32) (v5 : Int32) (I : jM) (g_h1 : jAI E (jl h1) h1) (g_h2 : jAI E (jl h2) h2) {K : jM → Prop} {X8 : Int32 × jM → Prop} (hX8 : ∀ s : Int32 × jM, X8 s → jJ Z E 7 (jQv Z E K) 8 [(0, .int v0), (1, .ref (E.2.2.1 h1)), (2, .ref (E.2.2.1 h2)), (3, .int v3), (4, .int v4), (5, .int s.1)] [] s.2) (h : NE_copyWithout_8b v0 h1 h2 v3 v4 v5 I K X8) : jJ Z E 7 (jQv Z E K) 8 [(0, .int v0), (1, .ref (E.2.2.1 h1)), (2, .ref (E.2.2.1 h2)), (3, .int v3), (4, .int v4), (5, .int v5)] [] I := by
  unfold NE_copyWithout_8b at h
  refine j_iload C d_NE_copyWithout_8 5 rfl ?_
  refine j_iload_n C d_NE_copyWithout_10 rfl 3 rfl ?_
  refine j_icmp_ge C d_NE_copyWithout_11 (tgt := 72) (by decide) (fun c11 => ?_) (fun c11 => ?_)
  · have h := h.1 c11
    exact j_vret C hr d_NE_copyWithout_72 h
  · have h := h.2 c11
    refine j_iload C d_NE_copyWithout_14 4 rfl ?_
    refine j_iload C d_NE_copyWithout_16 5 rfl ?_
    refine j_ishr C d_NE_copyWithout_18 ?_
    refine j_iconst C d_NE_copyWithout_19 ic_1 ?_
    refine j_iand C d_NE_copyWithout_20 ?_
    refine j_iconst C d_NE_copyWithout_21 ic_1 ?_
    refine j_icmp_ne C d_NE_copyWithout_22 (tgt := 29) (by decide) (fun c22 => ?_) (fun c22 => ?_)
    · have h := h.1 c22
      refine j_iconst C d_NE_copyWithout_29 ic_0 ?_
      refine j_lv [0, 1, 2, 3, 4, 5] rfl ?_
      exact k_NE_copyWithout_30 C hr v0 h1 h2 v3 v4 v5 (0 : Int32) I g_h1 g_h2 hX8 h
    · have h := h.2 c22
      refine j_iconst C d_NE_copyWithout_25 ic_1 ?_
      refine j_goto C d_NE_copyWithout_26 (tgt := 30) (by decide) ?_
      refine j_lv [0, 1, 2, 3, 4, 5] rfl ?_
      exact k_NE_copyWithout_30 C hr v0 h1 h2 v3 v4 v5 (1 : Int32) I g_h1 g_h2 hX8 h
theorem k_NE_copyWithout_8 {Z : jZ} {E : jE} (C : jC Z E prog_6_method_6_code 7 "OutOrder$Net" 0 0) (hr : (jZh Z).sig.returnType = none)  (v0 : Int32) (h1 : Nat) (h2 : Nat) (v3 : Int32) (v4 : Int32) (v5 : Int32) (I : jM) (g_h1 : jAI E (jl h1) h1) (g_h2 : jAI E (jl h2) h2) {K : jM → Prop} (h : NE_copyWithout_8 v0 h1 h2 v3 v4 v5 I K) : jJ Z E 7 (jQv Z E K) 8 [(0, .int v0), (1, .ref (E.2.2.1 h1)), (2, .ref (E.2.2.1 h2)), (3, .int v3), (4, .int v4), (5, .int v5)] [] I := by
  unfold NE_copyWithout_8 at h
  exact h (fun s => jJ Z E 7 (jQv Z E K) 8 [(0, .int v0), (1, .ref (E.2.2.1 h1)), (2, .ref (E.2.2.1 h2)), (3, .int v3), (4, .int v4), (5, .int s.1)] [] s.2) (fun s hs => kb_NE_copyWithout_8 C hr v0 h1 h2 v3 v4 s.1 s.2 g_h1 g_h2 (fun s2 h2 => h2) hs)
/-- OutOrder$Net.copyWithout(I[I[II)V -/
def NE_copyWithout (v0 : Int32) (h1 : Nat) (h2 : Nat) (v3 : Int32) (I : jM) (K : jM → Prop) : Prop :=
  (vp_in v0 (jl h1) ∧ (∀ v4_1 : Int32, v4_1 = (I h1 v0.toNatClampNeg) → NE_copyWithout_8 v0 h1 h2 v3 v4_1 (0 : Int32) I K))
set_option maxRecDepth 100000 in
set_option maxHeartbeats 4000000 in
theorem s_NE_copyWithout {l : Launch} {E : jE} (ok : jOK E)  {v0 : Int32} {h1 : Nat} {h2 : Nat} {v3 : Int32} (g_h1 : jAI E (jl h1) h1) (g_h2 : jAI E (jl h2) h2) {I : jM} {K : jM → Prop} (h : NE_copyWithout v0 h1 h2 v3 I K) : jSv l E ⟨"OutOrder$Net", "copyWithout", "(I[I[II)V"⟩ prog_6_method_6_code 7 none 0 0 [.int v0, .ref (E.2.2.1 h1), .ref (E.2.2.1 h2), .int v3] I K := by
  refine jS_ofF (own := "OutOrder$Net") (by decide +kernel) rfl ok (Nat.le_of_ble_eq_true rfl) (fun Z _ C hr => ?_)
  show jJ Z E 7 (jQv Z E K) 0 [(0, .int v0), (1, .ref (E.2.2.1 h1)), (2, .ref (E.2.2.1 h2)), (3, .int v3)] [] I
  unfold NE_copyWithout at h
  refine j_aload_n C d_NE_copyWithout_0 rfl 1 rfl ?_
  refine j_iload_n C d_NE_copyWithout_1 rfl 0 rfl ?_
  obtain ⟨hi, h⟩ := h
  refine j_iaload C g_h1 hi d_NE_copyWithout_2 ?_
  refine j_topi (fun v4_1 ev4_1 => ?_)
  have h := h v4_1 ev4_1
  refine j_istore C d_NE_copyWithout_3 (by decide) (lv' := [(4, .int v4_1), (0, .int v0), (1, .ref (E.2.2.1 h1)), (2, .ref (E.2.2.1 h2)), (3, .int v3)]) rfl ?_
  refine j_iconst C d_NE_copyWithout_5 ic_0 ?_
  refine j_istore C d_NE_copyWithout_6 (by decide) (lv' := [(5, .int (0 : Int32)), (4, .int v4_1), (0, .int v0), (1, .ref (E.2.2.1 h1)), (2, .ref (E.2.2.1 h2)), (3, .int v3)]) rfl ?_
  refine j_lv [2, 3, 4, 5, 1, 0] rfl ?_
  exact k_NE_copyWithout_8 C hr v0 h1 h2 v3 v4_1 (0 : Int32) I g_h1 g_h2 h
theorem d_NE_has_0 : decode prog_6_method_3_code 0 = .ok (.aload_n 0, 1) := by decide +kernel
theorem d_NE_has_1 : decode prog_6_method_3_code 1 = .ok (.getfield 22, 3) := by decide +kernel
theorem d_NE_has_4 : decode prog_6_method_3_code 4 = .ok (.iload_n 1, 1) := by decide +kernel
theorem d_NE_has_5 : decode prog_6_method_3_code 5 = .ok (.ishr, 1) := by decide +kernel
theorem d_NE_has_6 : decode prog_6_method_3_code 6 = .ok (.iconst 1, 1) := by decide +kernel
theorem d_NE_has_7 : decode prog_6_method_3_code 7 = .ok (.iand, 1) := by decide +kernel
theorem d_NE_has_8 : decode prog_6_method_3_code 8 = .ok (.iconst 1, 1) := by decide +kernel
theorem d_NE_has_9 : decode prog_6_method_3_code 9 = .ok (.if_icmp .ne 7, 3) := by decide +kernel
theorem d_NE_has_12 : decode prog_6_method_3_code 12 = .ok (.iconst 1, 1) := by decide +kernel
theorem d_NE_has_13 : decode prog_6_method_3_code 13 = .ok (.goto 4, 3) := by decide +kernel
theorem d_NE_has_16 : decode prog_6_method_3_code 16 = .ok (.iconst 0, 1) := by decide +kernel
theorem d_NE_has_17 : decode prog_6_method_3_code 17 = .ok (.ireturn, 1) := by decide +kernel
/-- OutOrder$Net.has(I)Z -/
def NE_has (h0 : Nat) (v1 : Int32) (I : jM) (K : Int32 → Prop) : Prop :=
  ((¬ (((I h0 1) >>> (v1 &&& 31)) &&& (1 : Int32)) = (1 : Int32) → K (0 : Int32)) ∧ ((((I h0 1) >>> (v1 &&& 31)) &&& (1 : Int32)) = (1 : Int32) → K (1 : Int32)))
set_option maxRecDepth 100000 in
set_option maxHeartbeats 4000000 in
theorem s_NE_has {l : Launch} {E : jE} (ok : jOK E)  {h0 : Nat} {v1 : Int32} (g_h0 : jOB E 4 h0) {I : jM} {K : Int32 → Prop} (h : NE_has h0 v1 I K) : jSi l E ⟨"OutOrder$Net", "has", "(I)Z"⟩ prog_6_method_3_code 2 (some .boolean) 0 0 [.ref (E.2.2.1 h0), .int v1] I (fun r I2 => I = I2 ∧ K r) := by
  refine jS_ofF (own := "OutOrder$Net") (by decide +kernel) rfl ok (Nat.le_of_ble_eq_true rfl) (fun Z _ C hr => ?_)
  show jJ Z E 2 (jQi Z E (fun r I2 => I = I2 ∧ K r)) 0 [(0, .ref (E.2.2.1 h0)), (1, .int v1)] [] I
  unfold NE_has at h
  refine j_aload_n C d_NE_has_0 rfl 0 rfl ?_
  refine fg_NE_22 C g_h0 d_NE_has_1 ?_
  refine j_iload_n C d_NE_has_4 rfl 1 rfl ?_
  refine j_ishr C d_NE_has_5 ?_
  refine j_iconst C d_NE_has_6 ic_1 ?_
  refine j_iand C d_NE_has_7 ?_
  refine j_iconst C d_NE_has_8 ic_1 ?_
  refine j_icmp_ne C d_NE_has_9 (tgt := 16) (by decide) (fun c9 => ?_) (fun c9 => ?_)
  · have h := h.1 c9
    refine j_iconst C d_NE_has_16 ic_0 ?_
    exact j_zret C hr (by decide) d_NE_has_17 ⟨rfl, h⟩
  · have h := h.2 c9
    refine j_iconst C d_NE_has_12 ic_1 ?_
    refine j_goto C d_NE_has_13 (tgt := 17) (by decide) ?_
    exact j_zret C hr (by decide) d_NE_has_17 ⟨rfl, h⟩
theorem d_NE_missing_0 : decode prog_6_method_4_code 0 = .ok (.aload_n 0, 1) := by decide +kernel
theorem d_NE_missing_1 : decode prog_6_method_4_code 1 = .ok (.getfield 9, 3) := by decide +kernel
theorem d_NE_missing_4 : decode prog_6_method_4_code 4 = .ok (.iload_n 1, 1) := by decide +kernel
theorem d_NE_missing_5 : decode prog_6_method_4_code 5 = .ok (.iaload, 1) := by decide +kernel
theorem d_NE_missing_6 : decode prog_6_method_4_code 6 = .ok (.istore_n 2, 1) := by decide +kernel
theorem d_NE_missing_7 : decode prog_6_method_4_code 7 = .ok (.iconst 0, 1) := by decide +kernel
theorem d_NE_missing_8 : decode prog_6_method_4_code 8 = .ok (.istore_n 3, 1) := by decide +kernel
theorem d_NE_missing_9 : decode prog_6_method_4_code 9 = .ok (.iconst 0, 1) := by decide +kernel
theorem d_NE_missing_10 : decode prog_6_method_4_code 10 = .ok (.istore 4, 2) := by decide +kernel
theorem d_NE_missing_12 : decode prog_6_method_4_code 12 = .ok (.iload 4, 2) := by decide +kernel
theorem d_NE_missing_14 : decode prog_6_method_4_code 14 = .ok (.aload_n 0, 1) := by decide +kernel
theorem d_NE_missing_15 : decode prog_6_method_4_code 15 = .ok (.getfield 15, 3) := by decide +kernel
theorem d_NE_missing_18 : decode prog_6_method_4_code 18 = .ok (.if_icmp .ge 43, 3) := by decide +kernel
theorem d_NE_missing_21 : decode prog_6_method_4_code 21 = .ok (.iload_n 2, 1) := by decide +kernel
theorem d_NE_missing_22 : decode prog_6_method_4_code 22 = .ok (.iload 4, 2) := by decide +kernel
theorem d_NE_missing_24 : decode prog_6_method_4_code 24 = .ok (.ishr, 1) := by decide +kernel
theorem d_NE_missing_25 : decode prog_6_method_4_code 25 = .ok (.iconst 1, 1) := by decide +kernel
theorem d_NE_missing_26 : decode prog_6_method_4_code 26 = .ok (.iand, 1) := by decide +kernel
theorem d_NE_missing_27 : decode prog_6_method_4_code 27 = .ok (.iconst 1, 1) := by decide +kernel
theorem d_NE_missing_28 : decode prog_6_method_4_code 28 = .ok (.if_icmp .ne 27, 3) := by decide +kernel
theorem d_NE_missing_31 : decode prog_6_method_4_code 31 = .ok (.iload_n 3, 1) := by decide +kernel
theorem d_NE_missing_32 : decode prog_6_method_4_code 32 = .ok (.iload_n 2, 1) := by decide +kernel
theorem d_NE_missing_33 : decode prog_6_method_4_code 33 = .ok (.aload_n 0, 1) := by decide +kernel
theorem d_NE_missing_34 : decode prog_6_method_4_code 34 = .ok (.getfield 9, 3) := by decide +kernel
theorem d_NE_missing_37 : decode prog_6_method_4_code 37 = .ok (.iload 4, 2) := by decide +kernel
theorem d_NE_missing_39 : decode prog_6_method_4_code 39 = .ok (.iaload, 1) := by decide +kernel
theorem d_NE_missing_40 : decode prog_6_method_4_code 40 = .ok (.iconst (-1), 1) := by decide +kernel
theorem d_NE_missing_41 : decode prog_6_method_4_code 41 = .ok (.ixor, 1) := by decide +kernel
theorem d_NE_missing_42 : decode prog_6_method_4_code 42 = .ok (.iand, 1) := by decide +kernel
theorem d_NE_missing_43 : decode prog_6_method_4_code 43 = .ok (.iconst 1, 1) := by decide +kernel
theorem d_NE_missing_44 : decode prog_6_method_4_code 44 = .ok (.iload 4, 2) := by decide +kernel
theorem d_NE_missing_46 : decode prog_6_method_4_code 46 = .ok (.ishl, 1) := by decide +kernel
theorem d_NE_missing_47 : decode prog_6_method_4_code 47 = .ok (.iconst (-1), 1) := by decide +kernel
theorem d_NE_missing_48 : decode prog_6_method_4_code 48 = .ok (.ixor, 1) := by decide +kernel
theorem d_NE_missing_49 : decode prog_6_method_4_code 49 = .ok (.iand, 1) := by decide +kernel
theorem d_NE_missing_50 : decode prog_6_method_4_code 50 = .ok (.invokestatic 28, 3) := by decide +kernel
theorem d_NE_missing_53 : decode prog_6_method_4_code 53 = .ok (.iadd, 1) := by decide +kernel
theorem d_NE_missing_54 : decode prog_6_method_4_code 54 = .ok (.istore_n 3, 1) := by decide +kernel
theorem d_NE_missing_55 : decode prog_6_method_4_code 55 = .ok (.iinc 4 1, 3) := by decide +kernel
theorem d_NE_missing_58 : decode prog_6_method_4_code 58 = .ok (.goto (-46), 3) := by decide +kernel
theorem d_NE_missing_61 : decode prog_6_method_4_code 61 = .ok (.iload_n 3, 1) := by decide +kernel
theorem d_NE_missing_62 : decode prog_6_method_4_code 62 = .ok (.iconst 2, 1) := by decide +kernel
theorem d_NE_missing_63 : decode prog_6_method_4_code 63 = .ok (.idiv, 1) := by decide +kernel
theorem d_NE_missing_64 : decode prog_6_method_4_code 64 = .ok (.ireturn, 1) := by decide +kernel
def NE_missing_12b (h0 : Nat) (v2 : Int32) (v3 : Int32) (v4 : Int32) (I : jM) (K : Int32 → Prop) (X12 : Int32 × Int32 → Prop) : Prop :=
  (((I h0 2) ≤ v4 → K (v3 / (2 : Int32))) ∧ (¬ (I h0 2) ≤ v4 → ((¬ ((v2 >>> (v4 &&& 31)) &&& (1 : Int32)) = (1 : Int32) → X12 (v3, (v4 + 1))) ∧ (((v2 >>> (v4 &&& 31)) &&& (1 : Int32)) = (1 : Int32) → (vp_in v4 24 ∧ JI_bitCount ((v2 &&& ((I (jr h0 0) v4.toNatClampNeg) ^^^ (-1 : Int32))) &&& (((1 : Int32) <<< (v4 &&& 31)) ^^^ (-1 : Int32))) I (fun r_1 => (∀ v3_2 : Int32, v3_2 = (v3 + r_1) → X12 (v3_2, (v4 + 1)))))))))
def NE_missing_12 (h0 : Nat) (v2 : Int32) (v3 : Int32) (v4 : Int32) (I : jM) (K : Int32 → Prop) : Prop :=
  lp (fun (X12 : Int32 × Int32 → Prop) (s : Int32 × Int32) => NE_missing_12b h0 v2 s.1 s.2 I K X12) (v3, v4)
set_option maxRecDepth 100000 in
set_option maxHeartbeats 4000000 in
theorem kb_NE_missing_12 {Z : jZ} {E : jE} (C : jC Z E prog_6_method_4_code 5 "OutOrder$Net" 1 20) (hr : (jZh Z).sig.returnType = (some .int)) (hE : E.2.2.2 = jLX)  (h0 : Nat) (v2 : Int32) (v3 : Int32) (v4 : Int32) (I : jM) (g_h0 : jOB E 4 h0) {K : Int32 → Prop} {X12 : Int32 × Int32 → Prop} (hX12 : ∀ s : Int32 × Int32, X12 s → jJ Z E 5 (jQi Z E (fun r I2 => I = I2 ∧ K r)) 12 [(0, .ref (E.2.2.1 h0)), (2, .int v2), (3, .int s.1), (4, .int s.2)] [] I) (h : NE_missing_12b h0 v2 v3 v4 I K X12) : jJ Z E 5 (jQi Z E (fun r I2 => I = I2 ∧ K r)) 12 [(0, .ref (E.2.2.1 h0)), (2, .int v2), (3, .int v3), (4, .int v4)] [] I := by
  unfold NE_missing_12b at h
  refine j_iload C d_NE_missing_12 3 rfl ?_
  refine j_aload_n C d_NE_missing_14 rfl 0 rfl ?_
  refine fg_NE_15 C g_h0 d_NE_missing_15 ?_
  refine j_icmp_ge C d_NE_missing_18 (tgt := 61) (by decide) (fun c18 => ?_) (fun c18 => ?_)
  · have h := h.1 c18
    refine j_iload_n C d_NE_missing_61 rfl 2 rfl ?_
    refine j_iconst C d_NE_missing_62 ic_2 ?_
    refine j_idiv C d_NE_missing_63 (by decide) ?_
    exact j_iret C hr d_NE_missing_64 ⟨rfl, h⟩
  · have h := h.2 c18
    refine j_iload_n C d_NE_missing_21 rfl 1 rfl ?_
    refine j_iload C d_NE_missing_22 3 rfl ?_
    refine j_ishr C d_NE_missing_24 ?_
    refine j_iconst C d_NE_missing_25 ic_1 ?_
    refine j_iand C d_NE_missing_26 ?_
    refine j_iconst C d_NE_missing_27 ic_1 ?_
    refine j_icmp_ne C d_NE_missing_28 (tgt := 55) (by decide) (fun c28 => ?_) (fun c28 => ?_)
    · have h := h.1 c28
      refine j_iinc C d_NE_missing_55 3 rfl (v := (v4 + 1)) rfl (by decide) (lv' := [(4, .int (v4 + 1)), (0, .ref (E.2.2.1 h0)), (2, .int v2), (3, .int v3)]) rfl ?_
      refine j_goto C d_NE_missing_58 (tgt := 12) (by decide) ?_
      refine j_lv [1, 2, 3, 0] rfl ?_
      exact hX12 (v3, (v4 + 1)) h
    · have h := h.2 c28
      refine j_iload_n C d_NE_missing_31 rfl 2 rfl ?_
      refine j_iload_n C d_NE_missing_32 rfl 1 rfl ?_
      refine j_aload_n C d_NE_missing_33 rfl 0 rfl ?_
      refine fg_NE_9 C g_h0 d_NE_missing_34 ?_
      refine j_iload C d_NE_missing_37 3 rfl ?_
      obtain ⟨hi, h⟩ := h
      refine j_iaload C (sh_NE_0 hE g_h0) hi d_NE_missing_39 ?_
      refine j_iconst C d_NE_missing_40 ic_m1 ?_
      refine j_ixor C d_NE_missing_41 ?_
      refine j_iand C d_NE_missing_42 ?_
      refine j_iconst C d_NE_missing_43 ic_1 ?_
      refine j_iload C d_NE_missing_44 3 rfl ?_
      refine j_ishl C d_NE_missing_46 ?_
      refine j_iconst C d_NE_missing_47 ic_m1 ?_
      refine j_ixor C d_NE_missing_48 ?_
      refine j_iand C d_NE_missing_49 ?_
      refine j_callSi (As := [.int ((v2 &&& ((I (jr h0 0) v4.toNatClampNeg) ^^^ (-1 : Int32))) &&& (((1 : Int32) <<< (v4 &&& 31)) ^^^ (-1 : Int32)))]) C cw_NE_28 w_412 rfl rfl (by decide) (by decide) (Nat.le_of_ble_eq_true rfl) d_NE_missing_50 (s_JI_bitCount C.ok  h) (fun r_1 I2 h => ?_)
      obtain ⟨rfl, h⟩ := h
      refine j_iadd C d_NE_missing_53 ?_
      refine j_topi (fun v3_2 ev3_2 => ?_)
      have h := h v3_2 ev3_2
      refine j_istore_n C d_NE_missing_54 rfl (by decide) (lv' := [(3, .int v3_2), (0, .ref (E.2.2.1 h0)), (2, .int v2), (4, .int v4)]) rfl ?_
      refine j_iinc C d_NE_missing_55 3 rfl (v := (v4 + 1)) rfl (by decide) (lv' := [(4, .int (v4 + 1)), (3, .int v3_2), (0, .ref (E.2.2.1 h0)), (2, .int v2)]) rfl ?_
      refine j_goto C d_NE_missing_58 (tgt := 12) (by decide) ?_
      refine j_lv [2, 3, 1, 0] rfl ?_
      exact hX12 (v3_2, (v4 + 1)) h
theorem k_NE_missing_12 {Z : jZ} {E : jE} (C : jC Z E prog_6_method_4_code 5 "OutOrder$Net" 1 20) (hr : (jZh Z).sig.returnType = (some .int)) (hE : E.2.2.2 = jLX)  (h0 : Nat) (v2 : Int32) (v3 : Int32) (v4 : Int32) (I : jM) (g_h0 : jOB E 4 h0) {K : Int32 → Prop} (h : NE_missing_12 h0 v2 v3 v4 I K) : jJ Z E 5 (jQi Z E (fun r I2 => I = I2 ∧ K r)) 12 [(0, .ref (E.2.2.1 h0)), (2, .int v2), (3, .int v3), (4, .int v4)] [] I := by
  unfold NE_missing_12 at h
  exact h (fun s => jJ Z E 5 (jQi Z E (fun r I2 => I = I2 ∧ K r)) 12 [(0, .ref (E.2.2.1 h0)), (2, .int v2), (3, .int s.1), (4, .int s.2)] [] I) (fun s hs => kb_NE_missing_12 C hr hE h0 v2 s.1 s.2 I g_h0 (fun s2 h2 => h2) hs)
/-- OutOrder$Net.missing(I)I -/
def NE_missing (h0 : Nat) (v1 : Int32) (I : jM) (K : Int32 → Prop) : Prop :=
  (vp_in v1 24 ∧ (∀ v2_1 : Int32, v2_1 = (I (jr h0 0) v1.toNatClampNeg) → NE_missing_12 h0 v2_1 (0 : Int32) (0 : Int32) I K))
set_option maxRecDepth 100000 in
set_option maxHeartbeats 4000000 in
theorem s_NE_missing {l : Launch} {E : jE} (ok : jOK E) (hE : E.2.2.2 = jLX) {h0 : Nat} {v1 : Int32} (g_h0 : jOB E 4 h0) {I : jM} {K : Int32 → Prop} (h : NE_missing h0 v1 I K) : jSi l E ⟨"OutOrder$Net", "missing", "(I)I"⟩ prog_6_method_4_code 5 (some .int) 1 20 [.ref (E.2.2.1 h0), .int v1] I (fun r I2 => I = I2 ∧ K r) := by
  refine jS_ofF (own := "OutOrder$Net") (by decide +kernel) rfl ok (Nat.le_of_ble_eq_true rfl) (fun Z _ C hr => ?_)
  show jJ Z E 5 (jQi Z E (fun r I2 => I = I2 ∧ K r)) 0 [(0, .ref (E.2.2.1 h0)), (1, .int v1)] [] I
  unfold NE_missing at h
  refine j_aload_n C d_NE_missing_0 rfl 0 rfl ?_
  refine fg_NE_9 C g_h0 d_NE_missing_1 ?_
  refine j_iload_n C d_NE_missing_4 rfl 1 rfl ?_
  obtain ⟨hi, h⟩ := h
  refine j_iaload C (sh_NE_0 hE g_h0) hi d_NE_missing_5 ?_
  refine j_topi (fun v2_1 ev2_1 => ?_)
  have h := h v2_1 ev2_1
  refine j_istore_n C d_NE_missing_6 rfl (by decide) (lv' := [(2, .int v2_1), (0, .ref (E.2.2.1 h0)), (1, .int v1)]) rfl ?_
  refine j_iconst C d_NE_missing_7 ic_0 ?_
  refine j_istore_n C d_NE_missing_8 rfl (by decide) (lv' := [(3, .int (0 : Int32)), (2, .int v2_1), (0, .ref (E.2.2.1 h0)), (1, .int v1)]) rfl ?_
  refine j_iconst C d_NE_missing_9 ic_0 ?_
  refine j_istore C d_NE_missing_10 (by decide) (lv' := [(4, .int (0 : Int32)), (3, .int (0 : Int32)), (2, .int v2_1), (0, .ref (E.2.2.1 h0)), (1, .int v1)]) rfl ?_
  refine j_lv [3, 2, 1, 0] rfl ?_
  exact k_NE_missing_12 C hr hE h0 v2_1 (0 : Int32) (0 : Int32) I g_h0 h
theorem d_NE_remove_0 : decode prog_6_method_5_code 0 = .ok (.aload_n 0, 1) := by decide +kernel
theorem d_NE_remove_1 : decode prog_6_method_5_code 1 = .ok (.dup, 1) := by decide +kernel
theorem d_NE_remove_2 : decode prog_6_method_5_code 2 = .ok (.getfield 22, 3) := by decide +kernel
theorem d_NE_remove_5 : decode prog_6_method_5_code 5 = .ok (.iconst 1, 1) := by decide +kernel
theorem d_NE_remove_6 : decode prog_6_method_5_code 6 = .ok (.iload_n 1, 1) := by decide +kernel
theorem d_NE_remove_7 : decode prog_6_method_5_code 7 = .ok (.ishl, 1) := by decide +kernel
theorem d_NE_remove_8 : decode prog_6_method_5_code 8 = .ok (.iconst (-1), 1) := by decide +kernel
theorem d_NE_remove_9 : decode prog_6_method_5_code 9 = .ok (.ixor, 1) := by decide +kernel
theorem d_NE_remove_10 : decode prog_6_method_5_code 10 = .ok (.iand, 1) := by decide +kernel
theorem d_NE_remove_11 : decode prog_6_method_5_code 11 = .ok (.putfield 22, 3) := by decide +kernel
theorem d_NE_remove_14 : decode prog_6_method_5_code 14 = .ok (.iload_n 1, 1) := by decide +kernel
theorem d_NE_remove_15 : decode prog_6_method_5_code 15 = .ok (.aload_n 0, 1) := by decide +kernel
theorem d_NE_remove_16 : decode prog_6_method_5_code 16 = .ok (.getfield 9, 3) := by decide +kernel
theorem d_NE_remove_19 : decode prog_6_method_5_code 19 = .ok (.aload_n 0, 1) := by decide +kernel
theorem d_NE_remove_20 : decode prog_6_method_5_code 20 = .ok (.getfield 9, 3) := by decide +kernel
theorem d_NE_remove_23 : decode prog_6_method_5_code 23 = .ok (.aload_n 0, 1) := by decide +kernel
theorem d_NE_remove_24 : decode prog_6_method_5_code 24 = .ok (.getfield 15, 3) := by decide +kernel
theorem d_NE_remove_27 : decode prog_6_method_5_code 27 = .ok (.invokestatic 34, 3) := by decide +kernel
theorem d_NE_remove_30 : decode prog_6_method_5_code 30 = .ok (.return_, 1) := by decide +kernel
/-- OutOrder$Net.remove(I)V -/
def NE_remove (h0 : Nat) (v1 : Int32) (I : jM) (K : jM → Prop) : Prop :=
  (∀ I_1 : jM, I_1 = jwr I h0 1 ((I h0 1) &&& (((1 : Int32) <<< (v1 &&& 31)) ^^^ (-1 : Int32))) → NE_copyWithout v1 (jr h0 0) (jr h0 0) (I_1 h0 2) I_1 (fun I_3 => K I_3))
set_option maxRecDepth 100000 in
set_option maxHeartbeats 4000000 in
theorem s_NE_remove {l : Launch} {E : jE} (ok : jOK E) (hE : E.2.2.2 = jLX) {h0 : Nat} {v1 : Int32} (g_h0 : jOB E 4 h0) {I : jM} {K : jM → Prop} (h : NE_remove h0 v1 I K) : jSv l E ⟨"OutOrder$Net", "remove", "(I)V"⟩ prog_6_method_5_code 2 none 1 26 [.ref (E.2.2.1 h0), .int v1] I K := by
  refine jS_ofF (own := "OutOrder$Net") (by decide +kernel) rfl ok (Nat.le_of_ble_eq_true rfl) (fun Z _ C hr => ?_)
  show jJ Z E 2 (jQv Z E K) 0 [(0, .ref (E.2.2.1 h0)), (1, .int v1)] [] I
  unfold NE_remove at h
  refine j_aload_n C d_NE_remove_0 rfl 0 rfl ?_
  refine j_dup C d_NE_remove_1 rfl ?_
  refine fg_NE_22 C g_h0 d_NE_remove_2 ?_
  refine j_iconst C d_NE_remove_5 ic_1 ?_
  refine j_iload_n C d_NE_remove_6 rfl 1 rfl ?_
  refine j_ishl C d_NE_remove_7 ?_
  refine j_iconst C d_NE_remove_8 ic_m1 ?_
  refine j_ixor C d_NE_remove_9 ?_
  refine j_iand C d_NE_remove_10 ?_
  refine fp_NE_22 C g_h0 d_NE_remove_11 ?_
  have h := h _ rfl
  generalize eI_1 : (jwr I h0 1 ((I h0 1) &&& (((1 : Int32) <<< (v1 &&& 31)) ^^^ (-1 : Int32))) : jM) = I_1 at h ⊢
  refine j_iload_n C d_NE_remove_14 rfl 1 rfl ?_
  refine j_aload_n C d_NE_remove_15 rfl 0 rfl ?_
  refine fg_NE_9 C g_h0 d_NE_remove_16 ?_
  refine j_aload_n C d_NE_remove_19 rfl 0 rfl ?_
  refine fg_NE_9 C g_h0 d_NE_remove_20 ?_
  refine j_aload_n C d_NE_remove_23 rfl 0 rfl ?_
  refine fg_NE_15 C g_h0 d_NE_remove_24 ?_
  refine j_callSv (As := [.int v1, .ref (E.2.2.1 (jr h0 0)), .ref (E.2.2.1 (jr h0 0)), .int (I_1 h0 2)]) C cw_NE_34 w_431 rfl rfl (by decide) (by decide) (Nat.le_of_ble_eq_true rfl) d_NE_remove_27 (s_NE_copyWithout C.ok (((sh_NE_0 hE g_h0)).self) (((sh_NE_0 hE g_h0)).self) h) (fun I_3 h => ?_)
  exact j_vret C hr d_NE_remove_30 h
theorem d_NE_take_0 : decode prog_6_method_2_code 0 = .ok (.aload_n 0, 1) := by decide +kernel
theorem d_NE_take_1 : decode prog_6_method_2_code 1 = .ok (.aload_n 1, 1) := by decide +kernel
theorem d_NE_take_2 : decode prog_6_method_2_code 2 = .ok (.getfield 19, 3) := by decide +kernel
theorem d_NE_take_5 : decode prog_6_method_2_code 5 = .ok (.putfield 15, 3) := by decide +kernel
theorem d_NE_take_8 : decode prog_6_method_2_code 8 = .ok (.aload_n 0, 1) := by decide +kernel
theorem d_NE_take_9 : decode prog_6_method_2_code 9 = .ok (.iconst 1, 1) := by decide +kernel
theorem d_NE_take_10 : decode prog_6_method_2_code 10 = .ok (.aload_n 0, 1) := by decide +kernel
theorem d_NE_take_11 : decode prog_6_method_2_code 11 = .ok (.getfield 15, 3) := by decide +kernel
theorem d_NE_take_14 : decode prog_6_method_2_code 14 = .ok (.ishl, 1) := by decide +kernel
theorem d_NE_take_15 : decode prog_6_method_2_code 15 = .ok (.iconst 1, 1) := by decide +kernel
theorem d_NE_take_16 : decode prog_6_method_2_code 16 = .ok (.isub, 1) := by decide +kernel
theorem d_NE_take_17 : decode prog_6_method_2_code 17 = .ok (.putfield 22, 3) := by decide +kernel
theorem d_NE_take_20 : decode prog_6_method_2_code 20 = .ok (.iconst 0, 1) := by decide +kernel
theorem d_NE_take_21 : decode prog_6_method_2_code 21 = .ok (.istore_n 2, 1) := by decide +kernel
theorem d_NE_take_22 : decode prog_6_method_2_code 22 = .ok (.iload_n 2, 1) := by decide +kernel
theorem d_NE_take_23 : decode prog_6_method_2_code 23 = .ok (.aload_n 0, 1) := by decide +kernel
theorem d_NE_take_24 : decode prog_6_method_2_code 24 = .ok (.getfield 15, 3) := by decide +kernel
theorem d_NE_take_27 : decode prog_6_method_2_code 27 = .ok (.if_icmp .ge 21, 3) := by decide +kernel
theorem d_NE_take_30 : decode prog_6_method_2_code 30 = .ok (.aload_n 0, 1) := by decide +kernel
theorem d_NE_take_31 : decode prog_6_method_2_code 31 = .ok (.getfield 9, 3) := by decide +kernel
theorem d_NE_take_34 : decode prog_6_method_2_code 34 = .ok (.iload_n 2, 1) := by decide +kernel
theorem d_NE_take_35 : decode prog_6_method_2_code 35 = .ok (.aload_n 1, 1) := by decide +kernel
theorem d_NE_take_36 : decode prog_6_method_2_code 36 = .ok (.getfield 25, 3) := by decide +kernel
theorem d_NE_take_39 : decode prog_6_method_2_code 39 = .ok (.iload_n 2, 1) := by decide +kernel
theorem d_NE_take_40 : decode prog_6_method_2_code 40 = .ok (.iaload, 1) := by decide +kernel
theorem d_NE_take_41 : decode prog_6_method_2_code 41 = .ok (.iastore, 1) := by decide +kernel
theorem d_NE_take_42 : decode prog_6_method_2_code 42 = .ok (.iinc 2 1, 3) := by decide +kernel
theorem d_NE_take_45 : decode prog_6_method_2_code 45 = .ok (.goto (-23), 3) := by decide +kernel
theorem d_NE_take_48 : decode prog_6_method_2_code 48 = .ok (.return_, 1) := by decide +kernel
def NE_take_22b (h0 : Nat) (h1 : Nat) (v2 : Int32) (I : jM) (K : jM → Prop) (X22 : Int32 × jM → Prop) : Prop :=
  (((I h0 2) ≤ v2 → K I) ∧ (¬ (I h0 2) ≤ v2 → (vp_in v2 24 ∧ (vp_in v2 24 ∧ (∀ I_1 : jM, I_1 = jwr I (jr h0 0) v2.toNatClampNeg (I (jr h1 2) v2.toNatClampNeg) → X22 ((v2 + 1), I_1))))))
def NE_take_22 (h0 : Nat) (h1 : Nat) (v2 : Int32) (I : jM) (K : jM → Prop) : Prop :=
  lp (fun (X22 : Int32 × jM → Prop) (s : Int32 × jM) => NE_take_22b h0 h1 s.1 s.2 K X22) (v2, I)
set_option maxRecDepth 100000 in
set_option maxHeartbeats 4000000 in
theorem kb_NE_take_22 {Z : jZ} {E : jE} (C : jC Z E prog_6_method_2_code 3 "OutOrder$Net" 0 0) (hr : (jZh Z).sig.returnType = none) (hE : E.2.2.2 = jLX)  (h0 : Nat) (h1 : Nat) (v2 : Int32) (I : jM) (g_h0 : jOB E 4 h0) (g_h1 : jOB E 8 h1) {K : jM → Prop} {X22 : Int32 × jM → Prop} (hX22 : ∀ s : Int32 × jM, X22 s → jJ Z E 3 (jQv Z E K) 22 [(0, .ref (E.2.2.1 h0)), (1, .ref (E.2.2.1 h1)), (2, .int s.1)] [] s.2) (h : NE_take_22b h0 h1 v2 I K X22) : jJ Z E 3 (jQv Z E K) 22 [(0, .ref (E.2.2.1 h0)), (1, .ref (E.2.2.1 h1)), (2, .int v2)] [] I := by
  unfold NE_take_22b at h
  refine j_iload_n C d_NE_take_22 rfl 2 rfl ?_
  refine j_aload_n C d_NE_take_23 rfl 0 rfl ?_
  refine fg_NE_15 C g_h0 d_NE_take_24 ?_
  refine j_icmp_ge C d_NE_take_27 (tgt := 48) (by decide) (fun c27 => ?_) (fun c27 => ?_)
  · have h := h.1 c27
    exact j_vret C hr d_NE_take_48 h
  · have h := h.2 c27
    refine j_aload_n C d_NE_take_30 rfl 0 rfl ?_
    refine fg_NE_9 C g_h0 d_NE_take_31 ?_
    refine j_iload_n C d_NE_take_34 rfl 2 rfl ?_
    refine j_aload_n C d_NE_take_35 rfl 1 rfl ?_
    refine fg_NE_25 C g_h1 d_NE_take_36 ?_
    refine j_iload_n C d_NE_take_39 rfl 2 rfl ?_
    obtain ⟨hi, h⟩ := h
    refine j_iaload C (sh_TA_2 hE g_h1) hi d_NE_take_40 ?_
    obtain ⟨hi, h⟩ := h
    refine j_iastore C (sh_NE_0 hE g_h0) hi d_NE_take_41 ?_
    have h := h _ rfl
    generalize eI_1 : (jwr I (jr h0 0) v2.toNatClampNeg (I (jr h1 2) v2.toNatClampNeg) : jM) = I_1 at h ⊢
    refine j_iinc C d_NE_take_42 2 rfl (v := (v2 + 1)) rfl (by decide) (lv' := [(2, .int (v2 + 1)), (0, .ref (E.2.2.1 h0)), (1, .ref (E.2.2.1 h1))]) rfl ?_
    refine j_goto C d_NE_take_45 (tgt := 22) (by decide) ?_
    refine j_lv [1, 2, 0] rfl ?_
    exact hX22 ((v2 + 1), I_1) h
theorem k_NE_take_22 {Z : jZ} {E : jE} (C : jC Z E prog_6_method_2_code 3 "OutOrder$Net" 0 0) (hr : (jZh Z).sig.returnType = none) (hE : E.2.2.2 = jLX)  (h0 : Nat) (h1 : Nat) (v2 : Int32) (I : jM) (g_h0 : jOB E 4 h0) (g_h1 : jOB E 8 h1) {K : jM → Prop} (h : NE_take_22 h0 h1 v2 I K) : jJ Z E 3 (jQv Z E K) 22 [(0, .ref (E.2.2.1 h0)), (1, .ref (E.2.2.1 h1)), (2, .int v2)] [] I := by
  unfold NE_take_22 at h
  exact h (fun s => jJ Z E 3 (jQv Z E K) 22 [(0, .ref (E.2.2.1 h0)), (1, .ref (E.2.2.1 h1)), (2, .int s.1)] [] s.2) (fun s hs => kb_NE_take_22 C hr hE h0 h1 s.1 s.2 g_h0 g_h1 (fun s2 h2 => h2) hs)
/-- OutOrder$Net.take(LOutOrder$Table;)V -/
def NE_take (h0 : Nat) (h1 : Nat) (I : jM) (K : jM → Prop) : Prop :=
  (∀ I_1 : jM, I_1 = jwr I h0 2 (I h1 4) → (∀ I_2 : jM, I_2 = jwr I_1 h0 1 (((1 : Int32) <<< ((I_1 h0 2) &&& 31)) - (1 : Int32)) → NE_take_22 h0 h1 (0 : Int32) I_2 K))
set_option maxRecDepth 100000 in
set_option maxHeartbeats 4000000 in
theorem s_NE_take {l : Launch} {E : jE} (ok : jOK E) (hE : E.2.2.2 = jLX) {h0 : Nat} {h1 : Nat} (g_h0 : jOB E 4 h0) (g_h1 : jOB E 8 h1) {I : jM} {K : jM → Prop} (h : NE_take h0 h1 I K) : jSv l E ⟨"OutOrder$Net", "take", "(LOutOrder$Table;)V"⟩ prog_6_method_2_code 3 none 0 0 [.ref (E.2.2.1 h0), .ref (E.2.2.1 h1)] I K := by
  refine jS_ofF (own := "OutOrder$Net") (by decide +kernel) rfl ok (Nat.le_of_ble_eq_true rfl) (fun Z _ C hr => ?_)
  show jJ Z E 3 (jQv Z E K) 0 [(0, .ref (E.2.2.1 h0)), (1, .ref (E.2.2.1 h1))] [] I
  unfold NE_take at h
  refine j_aload_n C d_NE_take_0 rfl 0 rfl ?_
  refine j_aload_n C d_NE_take_1 rfl 1 rfl ?_
  refine fg_NE_19 C g_h1 d_NE_take_2 ?_
  refine fp_NE_15 C g_h0 d_NE_take_5 ?_
  have h := h _ rfl
  generalize eI_1 : (jwr I h0 2 (I h1 4) : jM) = I_1 at h ⊢
  refine j_aload_n C d_NE_take_8 rfl 0 rfl ?_
  refine j_iconst C d_NE_take_9 ic_1 ?_
  refine j_aload_n C d_NE_take_10 rfl 0 rfl ?_
  refine fg_NE_15 C g_h0 d_NE_take_11 ?_
  refine j_ishl C d_NE_take_14 ?_
  refine j_iconst C d_NE_take_15 ic_1 ?_
  refine j_isub C d_NE_take_16 ?_
  refine fp_NE_22 C g_h0 d_NE_take_17 ?_
  have h := h _ rfl
  generalize eI_2 : (jwr I_1 h0 1 (((1 : Int32) <<< ((I_1 h0 2) &&& 31)) - (1 : Int32)) : jM) = I_2 at h ⊢
  refine j_iconst C d_NE_take_20 ic_0 ?_
  refine j_istore_n C d_NE_take_21 rfl (by decide) (lv' := [(2, .int (0 : Int32)), (0, .ref (E.2.2.1 h0)), (1, .ref (E.2.2.1 h1))]) rfl ?_
  refine j_lv [1, 2, 0] rfl ?_
  exact k_NE_take_22 C hr hE h0 h1 (0 : Int32) I_2 g_h0 g_h1 h
