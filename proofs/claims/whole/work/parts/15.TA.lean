theorem d_TA_clear_0 : decode prog_11_method_2_code 0 = .ok (.aload_n 0, 1) := by decide +kernel
theorem d_TA_clear_1 : decode prog_11_method_2_code 1 = .ok (.iload_n 1, 1) := by decide +kernel
theorem d_TA_clear_2 : decode prog_11_method_2_code 2 = .ok (.putfield 30, 3) := by decide +kernel
theorem d_TA_clear_5 : decode prog_11_method_2_code 5 = .ok (.aload_n 0, 1) := by decide +kernel
theorem d_TA_clear_6 : decode prog_11_method_2_code 6 = .ok (.getfield 12, 3) := by decide +kernel
theorem d_TA_clear_9 : decode prog_11_method_2_code 9 = .ok (.iload_n 2, 1) := by decide +kernel
theorem d_TA_clear_10 : decode prog_11_method_2_code 10 = .ok (.putfield 34, 3) := by decide +kernel
theorem d_TA_clear_13 : decode prog_11_method_2_code 13 = .ok (.aload_n 0, 1) := by decide +kernel
theorem d_TA_clear_14 : decode prog_11_method_2_code 14 = .ok (.iconst 0, 1) := by decide +kernel
theorem d_TA_clear_15 : decode prog_11_method_2_code 15 = .ok (.putfield 37, 3) := by decide +kernel
theorem d_TA_clear_18 : decode prog_11_method_2_code 18 = .ok (.iconst 0, 1) := by decide +kernel
theorem d_TA_clear_19 : decode prog_11_method_2_code 19 = .ok (.istore_n 3, 1) := by decide +kernel
theorem d_TA_clear_20 : decode prog_11_method_2_code 20 = .ok (.iload_n 3, 1) := by decide +kernel
theorem d_TA_clear_21 : decode prog_11_method_2_code 21 = .ok (.bipush 24, 2) := by decide +kernel
theorem d_TA_clear_23 : decode prog_11_method_2_code 23 = .ok (.if_icmp .ge 49, 3) := by decide +kernel
theorem d_TA_clear_26 : decode prog_11_method_2_code 26 = .ok (.aload_n 0, 1) := by decide +kernel
theorem d_TA_clear_27 : decode prog_11_method_2_code 27 = .ok (.getfield 23, 3) := by decide +kernel
theorem d_TA_clear_30 : decode prog_11_method_2_code 30 = .ok (.iload_n 3, 1) := by decide +kernel
theorem d_TA_clear_31 : decode prog_11_method_2_code 31 = .ok (.iconst 0, 1) := by decide +kernel
theorem d_TA_clear_32 : decode prog_11_method_2_code 32 = .ok (.iastore, 1) := by decide +kernel
theorem d_TA_clear_33 : decode prog_11_method_2_code 33 = .ok (.aload_n 0, 1) := by decide +kernel
theorem d_TA_clear_34 : decode prog_11_method_2_code 34 = .ok (.getfield 27, 3) := by decide +kernel
theorem d_TA_clear_37 : decode prog_11_method_2_code 37 = .ok (.iload_n 3, 1) := by decide +kernel
theorem d_TA_clear_38 : decode prog_11_method_2_code 38 = .ok (.iconst 0, 1) := by decide +kernel
theorem d_TA_clear_39 : decode prog_11_method_2_code 39 = .ok (.iastore, 1) := by decide +kernel
theorem d_TA_clear_40 : decode prog_11_method_2_code 40 = .ok (.iconst 0, 1) := by decide +kernel
theorem d_TA_clear_41 : decode prog_11_method_2_code 41 = .ok (.istore 4, 2) := by decide +kernel
theorem d_TA_clear_43 : decode prog_11_method_2_code 43 = .ok (.iload 4, 2) := by decide +kernel
theorem d_TA_clear_45 : decode prog_11_method_2_code 45 = .ok (.bipush 24, 2) := by decide +kernel
theorem d_TA_clear_47 : decode prog_11_method_2_code 47 = .ok (.if_icmp .ge 19, 3) := by decide +kernel
theorem d_TA_clear_50 : decode prog_11_method_2_code 50 = .ok (.aload_n 0, 1) := by decide +kernel
theorem d_TA_clear_51 : decode prog_11_method_2_code 51 = .ok (.getfield 20, 3) := by decide +kernel
theorem d_TA_clear_54 : decode prog_11_method_2_code 54 = .ok (.iload_n 3, 1) := by decide +kernel
theorem d_TA_clear_55 : decode prog_11_method_2_code 55 = .ok (.aaload, 1) := by decide +kernel
theorem d_TA_clear_56 : decode prog_11_method_2_code 56 = .ok (.iload 4, 2) := by decide +kernel
theorem d_TA_clear_58 : decode prog_11_method_2_code 58 = .ok (.iconst 0, 1) := by decide +kernel
theorem d_TA_clear_59 : decode prog_11_method_2_code 59 = .ok (.iastore, 1) := by decide +kernel
theorem d_TA_clear_60 : decode prog_11_method_2_code 60 = .ok (.iinc 4 1, 3) := by decide +kernel
theorem d_TA_clear_63 : decode prog_11_method_2_code 63 = .ok (.goto (-20), 3) := by decide +kernel
theorem d_TA_clear_66 : decode prog_11_method_2_code 66 = .ok (.iinc 3 1, 3) := by decide +kernel
theorem d_TA_clear_69 : decode prog_11_method_2_code 69 = .ok (.goto (-49), 3) := by decide +kernel
theorem d_TA_clear_72 : decode prog_11_method_2_code 72 = .ok (.return_, 1) := by decide +kernel
def TA_clear_43b (h0 : Nat) (v3 : Int32) (v4 : Int32) (I : jM) (K : jM → Prop) (X20 : Int32 × jM → Prop) (X43 : Int32 × jM → Prop) : Prop :=
  (((24 : Int32) ≤ v4 → X20 ((v3 + 1), I)) ∧ (¬ (24 : Int32) ≤ v4 → (vp_in v3 24 ∧ (vp_in v4 24 ∧ (∀ I_2 : jM, I_2 = jwr I (jw (jr h0 1) v3.toNatClampNeg) v4.toNatClampNeg (0 : Int32) → X43 ((v4 + 1), I_2))))))
def TA_clear_43 (h0 : Nat) (v3 : Int32) (v4 : Int32) (I : jM) (K : jM → Prop) (X20 : Int32 × jM → Prop) : Prop :=
  lp (fun (X43 : Int32 × jM → Prop) (s : Int32 × jM) => TA_clear_43b h0 v3 s.1 s.2 K X20 X43) (v4, I)
set_option maxRecDepth 100000 in
set_option maxHeartbeats 4000000 in
theorem kb_TA_clear_43 {Z : jZ} {E : jE} (C : jC Z E prog_11_method_2_code 5 "OutOrder$Table" 0 0) (hr : (jZh Z).sig.returnType = none) (hE : E.2.2.2 = jLX)  (h0 : Nat) (v3 : Int32) (v4 : Int32) (I : jM) (g_h0 : jOB E 8 h0) {K : jM → Prop} {X20 : Int32 × jM → Prop} (hX20 : ∀ s : Int32 × jM, X20 s → jJ Z E 5 (jQv Z E K) 20 [(0, .ref (E.2.2.1 h0)), (3, .int s.1)] [] s.2) {X43 : Int32 × jM → Prop} (hX43 : ∀ s : Int32 × jM, X43 s → jJ Z E 5 (jQv Z E K) 43 [(0, .ref (E.2.2.1 h0)), (3, .int v3), (4, .int s.1)] [] s.2) (h : TA_clear_43b h0 v3 v4 I K X20 X43) : jJ Z E 5 (jQv Z E K) 43 [(0, .ref (E.2.2.1 h0)), (3, .int v3), (4, .int v4)] [] I := by
  unfold TA_clear_43b at h
  refine j_iload C d_TA_clear_43 2 rfl ?_
  refine j_bipush C d_TA_clear_45 ib_24 ?_
  refine j_icmp_ge C d_TA_clear_47 (tgt := 66) (by decide) (fun c47 => ?_) (fun c47 => ?_)
  · have h := h.1 c47
    refine j_iinc C d_TA_clear_66 1 rfl (v := (v3 + 1)) rfl (by decide) (lv' := [(3, .int (v3 + 1)), (0, .ref (E.2.2.1 h0)), (4, .int v4)]) rfl ?_
    refine j_goto C d_TA_clear_69 (tgt := 20) (by decide) ?_
    refine j_lv [1, 0] rfl ?_
    exact hX20 ((v3 + 1), I) h
  · have h := h.2 c47
    refine j_aload_n C d_TA_clear_50 rfl 0 rfl ?_
    refine fg_TA_20 C g_h0 d_TA_clear_51 ?_
    refine j_iload_n C d_TA_clear_54 rfl 1 rfl ?_
    obtain ⟨hi_1, h⟩ := h
    refine j_aaload C (sh_TA_1 hE g_h0) hi_1 d_TA_clear_55 ?_
    refine j_iload C d_TA_clear_56 2 rfl ?_
    refine j_iconst C d_TA_clear_58 ic_0 ?_
    obtain ⟨hi, h⟩ := h
    refine j_iastore C (sr_24_24 hE (sh_TA_1 hE g_h0) hi_1) hi d_TA_clear_59 ?_
    have h := h _ rfl
    generalize eI_2 : (jwr I (jw (jr h0 1) v3.toNatClampNeg) v4.toNatClampNeg (0 : Int32) : jM) = I_2 at h ⊢
    refine j_iinc C d_TA_clear_60 2 rfl (v := (v4 + 1)) rfl (by decide) (lv' := [(4, .int (v4 + 1)), (0, .ref (E.2.2.1 h0)), (3, .int v3)]) rfl ?_
    refine j_goto C d_TA_clear_63 (tgt := 43) (by decide) ?_
    refine j_lv [1, 2, 0] rfl ?_
    exact hX43 ((v4 + 1), I_2) h
theorem k_TA_clear_43 {Z : jZ} {E : jE} (C : jC Z E prog_11_method_2_code 5 "OutOrder$Table" 0 0) (hr : (jZh Z).sig.returnType = none) (hE : E.2.2.2 = jLX)  (h0 : Nat) (v3 : Int32) (v4 : Int32) (I : jM) (g_h0 : jOB E 8 h0) {K : jM → Prop} {X20 : Int32 × jM → Prop} (hX20 : ∀ s : Int32 × jM, X20 s → jJ Z E 5 (jQv Z E K) 20 [(0, .ref (E.2.2.1 h0)), (3, .int s.1)] [] s.2) (h : TA_clear_43 h0 v3 v4 I K X20) : jJ Z E 5 (jQv Z E K) 43 [(0, .ref (E.2.2.1 h0)), (3, .int v3), (4, .int v4)] [] I := by
  unfold TA_clear_43 at h
  exact h (fun s => jJ Z E 5 (jQv Z E K) 43 [(0, .ref (E.2.2.1 h0)), (3, .int v3), (4, .int s.1)] [] s.2) (fun s hs => kb_TA_clear_43 C hr hE h0 v3 s.1 s.2 g_h0 hX20 (fun s2 h2 => h2) hs)
def TA_clear_20b (h0 : Nat) (v3 : Int32) (I : jM) (K : jM → Prop) (X20 : Int32 × jM → Prop) : Prop :=
  (((24 : Int32) ≤ v3 → K I) ∧ (¬ (24 : Int32) ≤ v3 → (vp_in v3 24 ∧ (∀ I_1 : jM, I_1 = jwr I (jr h0 2) v3.toNatClampNeg (0 : Int32) → (vp_in v3 24 ∧ (∀ I_2 : jM, I_2 = jwr I_1 (jr h0 3) v3.toNatClampNeg (0 : Int32) → TA_clear_43 h0 v3 (0 : Int32) I_2 K X20))))))
def TA_clear_20 (h0 : Nat) (v3 : Int32) (I : jM) (K : jM → Prop) : Prop :=
  lp (fun (X20 : Int32 × jM → Prop) (s : Int32 × jM) => TA_clear_20b h0 s.1 s.2 K X20) (v3, I)
set_option maxRecDepth 100000 in
set_option maxHeartbeats 4000000 in
theorem kb_TA_clear_20 {Z : jZ} {E : jE} (C : jC Z E prog_11_method_2_code 5 "OutOrder$Table" 0 0) (hr : (jZh Z).sig.returnType = none) (hE : E.2.2.2 = jLX)  (h0 : Nat) (v3 : Int32) (I : jM) (g_h0 : jOB E 8 h0) {K : jM → Prop} {X20 : Int32 × jM → Prop} (hX20 : ∀ s : Int32 × jM, X20 s → jJ Z E 5 (jQv Z E K) 20 [(0, .ref (E.2.2.1 h0)), (3, .int s.1)] [] s.2) (h : TA_clear_20b h0 v3 I K X20) : jJ Z E 5 (jQv Z E K) 20 [(0, .ref (E.2.2.1 h0)), (3, .int v3)] [] I := by
  unfold TA_clear_20b at h
  refine j_iload_n C d_TA_clear_20 rfl 1 rfl ?_
  refine j_bipush C d_TA_clear_21 ib_24 ?_
  refine j_icmp_ge C d_TA_clear_23 (tgt := 72) (by decide) (fun c23 => ?_) (fun c23 => ?_)
  · have h := h.1 c23
    exact j_vret C hr d_TA_clear_72 h
  · have h := h.2 c23
    refine j_aload_n C d_TA_clear_26 rfl 0 rfl ?_
    refine fg_TA_23 C g_h0 d_TA_clear_27 ?_
    refine j_iload_n C d_TA_clear_30 rfl 1 rfl ?_
    refine j_iconst C d_TA_clear_31 ic_0 ?_
    obtain ⟨hi, h⟩ := h
    refine j_iastore C (sh_TA_2 hE g_h0) hi d_TA_clear_32 ?_
    have h := h _ rfl
    generalize eI_1 : (jwr I (jr h0 2) v3.toNatClampNeg (0 : Int32) : jM) = I_1 at h ⊢
    refine j_aload_n C d_TA_clear_33 rfl 0 rfl ?_
    refine fg_TA_27 C g_h0 d_TA_clear_34 ?_
    refine j_iload_n C d_TA_clear_37 rfl 1 rfl ?_
    refine j_iconst C d_TA_clear_38 ic_0 ?_
    obtain ⟨hi, h⟩ := h
    refine j_iastore C (sh_TA_3 hE g_h0) hi d_TA_clear_39 ?_
    have h := h _ rfl
    generalize eI_2 : (jwr I_1 (jr h0 3) v3.toNatClampNeg (0 : Int32) : jM) = I_2 at h ⊢
    refine j_iconst C d_TA_clear_40 ic_0 ?_
    refine j_istore C d_TA_clear_41 (by decide) (lv' := [(4, .int (0 : Int32)), (0, .ref (E.2.2.1 h0)), (3, .int v3)]) rfl ?_
    refine j_lv [1, 2, 0] rfl ?_
    exact k_TA_clear_43 C hr hE h0 v3 (0 : Int32) I_2 g_h0 hX20 h
theorem k_TA_clear_20 {Z : jZ} {E : jE} (C : jC Z E prog_11_method_2_code 5 "OutOrder$Table" 0 0) (hr : (jZh Z).sig.returnType = none) (hE : E.2.2.2 = jLX)  (h0 : Nat) (v3 : Int32) (I : jM) (g_h0 : jOB E 8 h0) {K : jM → Prop} (h : TA_clear_20 h0 v3 I K) : jJ Z E 5 (jQv Z E K) 20 [(0, .ref (E.2.2.1 h0)), (3, .int v3)] [] I := by
  unfold TA_clear_20 at h
  exact h (fun s => jJ Z E 5 (jQv Z E K) 20 [(0, .ref (E.2.2.1 h0)), (3, .int s.1)] [] s.2) (fun s hs => kb_TA_clear_20 C hr hE h0 s.1 s.2 g_h0 (fun s2 h2 => h2) hs)
/-- OutOrder$Table.clear(II)V -/
def TA_clear (h0 : Nat) (v1 : Int32) (v2 : Int32) (I : jM) (K : jM → Prop) : Prop :=
  (∀ I_1 : jM, I_1 = jwr I h0 4 v1 → (∀ I_2 : jM, I_2 = jwr I_1 (jr h0 0) 0 v2 → (∀ I_3 : jM, I_3 = jwr I_2 h0 5 (0 : Int32) → TA_clear_20 h0 (0 : Int32) I_3 K)))
set_option maxRecDepth 100000 in
set_option maxHeartbeats 4000000 in
theorem s_TA_clear {l : Launch} {E : jE} (ok : jOK E) (hE : E.2.2.2 = jLX) {h0 : Nat} {v1 : Int32} {v2 : Int32} (g_h0 : jOB E 8 h0) {I : jM} {K : jM → Prop} (h : TA_clear h0 v1 v2 I K) : jSv l E ⟨"OutOrder$Table", "clear", "(II)V"⟩ prog_11_method_2_code 5 none 0 0 [.ref (E.2.2.1 h0), .int v1, .int v2] I K := by
  refine jS_ofF (own := "OutOrder$Table") (by decide +kernel) rfl ok (Nat.le_of_ble_eq_true rfl) (fun Z _ C hr => ?_)
  show jJ Z E 5 (jQv Z E K) 0 [(0, .ref (E.2.2.1 h0)), (1, .int v1), (2, .int v2)] [] I
  unfold TA_clear at h
  refine j_aload_n C d_TA_clear_0 rfl 0 rfl ?_
  refine j_iload_n C d_TA_clear_1 rfl 1 rfl ?_
  refine fp_TA_30 C g_h0 d_TA_clear_2 ?_
  have h := h _ rfl
  generalize eI_1 : (jwr I h0 4 v1 : jM) = I_1 at h ⊢
  refine j_aload_n C d_TA_clear_5 rfl 0 rfl ?_
  refine fg_TA_12 C g_h0 d_TA_clear_6 ?_
  refine j_iload_n C d_TA_clear_9 rfl 2 rfl ?_
  refine fp_TA_34 C (sh_TA_0 hE g_h0) d_TA_clear_10 ?_
  have h := h _ rfl
  generalize eI_2 : (jwr I_1 (jr h0 0) 0 v2 : jM) = I_2 at h ⊢
  refine j_aload_n C d_TA_clear_13 rfl 0 rfl ?_
  refine j_iconst C d_TA_clear_14 ic_0 ?_
  refine fp_TA_37 C g_h0 d_TA_clear_15 ?_
  have h := h _ rfl
  generalize eI_3 : (jwr I_2 h0 5 (0 : Int32) : jM) = I_3 at h ⊢
  refine j_iconst C d_TA_clear_18 ic_0 ?_
  refine j_istore_n C d_TA_clear_19 rfl (by decide) (lv' := [(3, .int (0 : Int32)), (0, .ref (E.2.2.1 h0)), (1, .int v1), (2, .int v2)]) rfl ?_
  refine j_lv [1, 0] rfl ?_
  exact k_TA_clear_20 C hr hE h0 (0 : Int32) I_3 g_h0 h
theorem d_TA_digest_0 : decode prog_11_method_6_code 0 = .ok (.iconst 0, 1) := by decide +kernel
theorem d_TA_digest_1 : decode prog_11_method_6_code 1 = .ok (.istore_n 1, 1) := by decide +kernel
theorem d_TA_digest_2 : decode prog_11_method_6_code 2 = .ok (.iconst 0, 1) := by decide +kernel
theorem d_TA_digest_3 : decode prog_11_method_6_code 3 = .ok (.istore_n 2, 1) := by decide +kernel
theorem d_TA_digest_4 : decode prog_11_method_6_code 4 = .ok (.iload_n 2, 1) := by decide +kernel
theorem d_TA_digest_5 : decode prog_11_method_6_code 5 = .ok (.aload_n 0, 1) := by decide +kernel
theorem d_TA_digest_6 : decode prog_11_method_6_code 6 = .ok (.getfield 30, 3) := by decide +kernel
theorem d_TA_digest_9 : decode prog_11_method_6_code 9 = .ok (.if_icmp .ge 39, 3) := by decide +kernel
theorem d_TA_digest_12 : decode prog_11_method_6_code 12 = .ok (.iconst 0, 1) := by decide +kernel
theorem d_TA_digest_13 : decode prog_11_method_6_code 13 = .ok (.istore_n 3, 1) := by decide +kernel
theorem d_TA_digest_14 : decode prog_11_method_6_code 14 = .ok (.iload_n 3, 1) := by decide +kernel
theorem d_TA_digest_15 : decode prog_11_method_6_code 15 = .ok (.aload_n 0, 1) := by decide +kernel
theorem d_TA_digest_16 : decode prog_11_method_6_code 16 = .ok (.getfield 30, 3) := by decide +kernel
theorem d_TA_digest_19 : decode prog_11_method_6_code 19 = .ok (.if_icmp .ge 23, 3) := by decide +kernel
theorem d_TA_digest_22 : decode prog_11_method_6_code 22 = .ok (.bipush 31, 2) := by decide +kernel
theorem d_TA_digest_24 : decode prog_11_method_6_code 24 = .ok (.iload_n 1, 1) := by decide +kernel
theorem d_TA_digest_25 : decode prog_11_method_6_code 25 = .ok (.imul, 1) := by decide +kernel
theorem d_TA_digest_26 : decode prog_11_method_6_code 26 = .ok (.aload_n 0, 1) := by decide +kernel
theorem d_TA_digest_27 : decode prog_11_method_6_code 27 = .ok (.getfield 20, 3) := by decide +kernel
theorem d_TA_digest_30 : decode prog_11_method_6_code 30 = .ok (.iload_n 2, 1) := by decide +kernel
theorem d_TA_digest_31 : decode prog_11_method_6_code 31 = .ok (.aaload, 1) := by decide +kernel
theorem d_TA_digest_32 : decode prog_11_method_6_code 32 = .ok (.iload_n 3, 1) := by decide +kernel
theorem d_TA_digest_33 : decode prog_11_method_6_code 33 = .ok (.iaload, 1) := by decide +kernel
theorem d_TA_digest_34 : decode prog_11_method_6_code 34 = .ok (.iadd, 1) := by decide +kernel
theorem d_TA_digest_35 : decode prog_11_method_6_code 35 = .ok (.istore_n 1, 1) := by decide +kernel
theorem d_TA_digest_36 : decode prog_11_method_6_code 36 = .ok (.iinc 3 1, 3) := by decide +kernel
theorem d_TA_digest_39 : decode prog_11_method_6_code 39 = .ok (.goto (-25), 3) := by decide +kernel
theorem d_TA_digest_42 : decode prog_11_method_6_code 42 = .ok (.iinc 2 1, 3) := by decide +kernel
theorem d_TA_digest_45 : decode prog_11_method_6_code 45 = .ok (.goto (-41), 3) := by decide +kernel
theorem d_TA_digest_48 : decode prog_11_method_6_code 48 = .ok (.iload_n 1, 1) := by decide +kernel
theorem d_TA_digest_49 : decode prog_11_method_6_code 49 = .ok (.ireturn, 1) := by decide +kernel
def TA_digest_14b (h0 : Nat) (v1 : Int32) (v2 : Int32) (v3 : Int32) (I : jM) (K : Int32 → Prop) (X4 : Int32 × Int32 → Prop) (X14 : Int32 × Int32 → Prop) : Prop :=
  (((I h0 4) ≤ v3 → X4 (v1, (v2 + 1))) ∧ (¬ (I h0 4) ≤ v3 → (vp_in v2 24 ∧ (vp_in v3 24 ∧ (∀ v1_2 : Int32, v1_2 = (((31 : Int32) * v1) + (I (jw (jr h0 1) v2.toNatClampNeg) v3.toNatClampNeg)) → X14 (v1_2, (v3 + 1)))))))
def TA_digest_14 (h0 : Nat) (v1 : Int32) (v2 : Int32) (v3 : Int32) (I : jM) (K : Int32 → Prop) (X4 : Int32 × Int32 → Prop) : Prop :=
  lp (fun (X14 : Int32 × Int32 → Prop) (s : Int32 × Int32) => TA_digest_14b h0 s.1 v2 s.2 I K X4 X14) (v1, v3)
set_option maxRecDepth 100000 in
set_option maxHeartbeats 4000000 in
theorem kb_TA_digest_14 {Z : jZ} {E : jE} (C : jC Z E prog_11_method_6_code 4 "OutOrder$Table" 0 0) (hr : (jZh Z).sig.returnType = (some .int)) (hE : E.2.2.2 = jLX)  (h0 : Nat) (v1 : Int32) (v2 : Int32) (v3 : Int32) (I : jM) (g_h0 : jOB E 8 h0) {K : Int32 → Prop} {X4 : Int32 × Int32 → Prop} (hX4 : ∀ s : Int32 × Int32, X4 s → jJ Z E 4 (jQi Z E (fun r I2 => I = I2 ∧ K r)) 4 [(0, .ref (E.2.2.1 h0)), (1, .int s.1), (2, .int s.2)] [] I) {X14 : Int32 × Int32 → Prop} (hX14 : ∀ s : Int32 × Int32, X14 s → jJ Z E 4 (jQi Z E (fun r I2 => I = I2 ∧ K r)) 14 [(0, .ref (E.2.2.1 h0)), (1, .int s.1), (2, .int v2), (3, .int s.2)] [] I) (h : TA_digest_14b h0 v1 v2 v3 I K X4 X14) : jJ Z E 4 (jQi Z E (fun r I2 => I = I2 ∧ K r)) 14 [(0, .ref (E.2.2.1 h0)), (1, .int v1), (2, .int v2), (3, .int v3)] [] I := by
  unfold TA_digest_14b at h
  refine j_iload_n C d_TA_digest_14 rfl 3 rfl ?_
  refine j_aload_n C d_TA_digest_15 rfl 0 rfl ?_
  refine fg_TA_30 C g_h0 d_TA_digest_16 ?_
  refine j_icmp_ge C d_TA_digest_19 (tgt := 42) (by decide) (fun c19 => ?_) (fun c19 => ?_)
  · have h := h.1 c19
    refine j_iinc C d_TA_digest_42 2 rfl (v := (v2 + 1)) rfl (by decide) (lv' := [(2, .int (v2 + 1)), (0, .ref (E.2.2.1 h0)), (1, .int v1), (3, .int v3)]) rfl ?_
    refine j_goto C d_TA_digest_45 (tgt := 4) (by decide) ?_
    refine j_lv [1, 2, 0] rfl ?_
    exact hX4 (v1, (v2 + 1)) h
  · have h := h.2 c19
    refine j_bipush C d_TA_digest_22 ib_31 ?_
    refine j_iload_n C d_TA_digest_24 rfl 1 rfl ?_
    refine j_imul C d_TA_digest_25 ?_
    refine j_aload_n C d_TA_digest_26 rfl 0 rfl ?_
    refine fg_TA_20 C g_h0 d_TA_digest_27 ?_
    refine j_iload_n C d_TA_digest_30 rfl 2 rfl ?_
    obtain ⟨hi_1, h⟩ := h
    refine j_aaload C (sh_TA_1 hE g_h0) hi_1 d_TA_digest_31 ?_
    refine j_iload_n C d_TA_digest_32 rfl 3 rfl ?_
    obtain ⟨hi, h⟩ := h
    refine j_iaload C (sr_24_24 hE (sh_TA_1 hE g_h0) hi_1) hi d_TA_digest_33 ?_
    refine j_iadd C d_TA_digest_34 ?_
    refine j_topi (fun v1_2 ev1_2 => ?_)
    have h := h v1_2 ev1_2
    refine j_istore_n C d_TA_digest_35 rfl (by decide) (lv' := [(1, .int v1_2), (0, .ref (E.2.2.1 h0)), (2, .int v2), (3, .int v3)]) rfl ?_
    refine j_iinc C d_TA_digest_36 3 rfl (v := (v3 + 1)) rfl (by decide) (lv' := [(3, .int (v3 + 1)), (1, .int v1_2), (0, .ref (E.2.2.1 h0)), (2, .int v2)]) rfl ?_
    refine j_goto C d_TA_digest_39 (tgt := 14) (by decide) ?_
    refine j_lv [2, 1, 3, 0] rfl ?_
    exact hX14 (v1_2, (v3 + 1)) h
theorem k_TA_digest_14 {Z : jZ} {E : jE} (C : jC Z E prog_11_method_6_code 4 "OutOrder$Table" 0 0) (hr : (jZh Z).sig.returnType = (some .int)) (hE : E.2.2.2 = jLX)  (h0 : Nat) (v1 : Int32) (v2 : Int32) (v3 : Int32) (I : jM) (g_h0 : jOB E 8 h0) {K : Int32 → Prop} {X4 : Int32 × Int32 → Prop} (hX4 : ∀ s : Int32 × Int32, X4 s → jJ Z E 4 (jQi Z E (fun r I2 => I = I2 ∧ K r)) 4 [(0, .ref (E.2.2.1 h0)), (1, .int s.1), (2, .int s.2)] [] I) (h : TA_digest_14 h0 v1 v2 v3 I K X4) : jJ Z E 4 (jQi Z E (fun r I2 => I = I2 ∧ K r)) 14 [(0, .ref (E.2.2.1 h0)), (1, .int v1), (2, .int v2), (3, .int v3)] [] I := by
  unfold TA_digest_14 at h
  exact h (fun s => jJ Z E 4 (jQi Z E (fun r I2 => I = I2 ∧ K r)) 14 [(0, .ref (E.2.2.1 h0)), (1, .int s.1), (2, .int v2), (3, .int s.2)] [] I) (fun s hs => kb_TA_digest_14 C hr hE h0 s.1 v2 s.2 I g_h0 hX4 (fun s2 h2 => h2) hs)
def TA_digest_4b (h0 : Nat) (v1 : Int32) (v2 : Int32) (I : jM) (K : Int32 → Prop) (X4 : Int32 × Int32 → Prop) : Prop :=
  (((I h0 4) ≤ v2 → K v1) ∧ (¬ (I h0 4) ≤ v2 → TA_digest_14 h0 v1 v2 (0 : Int32) I K X4))
def TA_digest_4 (h0 : Nat) (v1 : Int32) (v2 : Int32) (I : jM) (K : Int32 → Prop) : Prop :=
  lp (fun (X4 : Int32 × Int32 → Prop) (s : Int32 × Int32) => TA_digest_4b h0 s.1 s.2 I K X4) (v1, v2)
set_option maxRecDepth 100000 in
set_option maxHeartbeats 4000000 in
theorem kb_TA_digest_4 {Z : jZ} {E : jE} (C : jC Z E prog_11_method_6_code 4 "OutOrder$Table" 0 0) (hr : (jZh Z).sig.returnType = (some .int)) (hE : E.2.2.2 = jLX)  (h0 : Nat) (v1 : Int32) (v2 : Int32) (I : jM) (g_h0 : jOB E 8 h0) {K : Int32 → Prop} {X4 : Int32 × Int32 → Prop} (hX4 : ∀ s : Int32 × Int32, X4 s → jJ Z E 4 (jQi Z E (fun r I2 => I = I2 ∧ K r)) 4 [(0, .ref (E.2.2.1 h0)), (1, .int s.1), (2, .int s.2)] [] I) (h : TA_digest_4b h0 v1 v2 I K X4) : jJ Z E 4 (jQi Z E (fun r I2 => I = I2 ∧ K r)) 4 [(0, .ref (E.2.2.1 h0)), (1, .int v1), (2, .int v2)] [] I := by
  unfold TA_digest_4b at h
  refine j_iload_n C d_TA_digest_4 rfl 2 rfl ?_
  refine j_aload_n C d_TA_digest_5 rfl 0 rfl ?_
  refine fg_TA_30 C g_h0 d_TA_digest_6 ?_
  refine j_icmp_ge C d_TA_digest_9 (tgt := 48) (by decide) (fun c9 => ?_) (fun c9 => ?_)
  · have h := h.1 c9
    refine j_iload_n C d_TA_digest_48 rfl 1 rfl ?_
    exact j_iret C hr d_TA_digest_49 ⟨rfl, h⟩
  · have h := h.2 c9
    refine j_iconst C d_TA_digest_12 ic_0 ?_
    refine j_istore_n C d_TA_digest_13 rfl (by decide) (lv' := [(3, .int (0 : Int32)), (0, .ref (E.2.2.1 h0)), (1, .int v1), (2, .int v2)]) rfl ?_
    refine j_lv [1, 2, 3, 0] rfl ?_
    exact k_TA_digest_14 C hr hE h0 v1 v2 (0 : Int32) I g_h0 hX4 h
theorem k_TA_digest_4 {Z : jZ} {E : jE} (C : jC Z E prog_11_method_6_code 4 "OutOrder$Table" 0 0) (hr : (jZh Z).sig.returnType = (some .int)) (hE : E.2.2.2 = jLX)  (h0 : Nat) (v1 : Int32) (v2 : Int32) (I : jM) (g_h0 : jOB E 8 h0) {K : Int32 → Prop} (h : TA_digest_4 h0 v1 v2 I K) : jJ Z E 4 (jQi Z E (fun r I2 => I = I2 ∧ K r)) 4 [(0, .ref (E.2.2.1 h0)), (1, .int v1), (2, .int v2)] [] I := by
  unfold TA_digest_4 at h
  exact h (fun s => jJ Z E 4 (jQi Z E (fun r I2 => I = I2 ∧ K r)) 4 [(0, .ref (E.2.2.1 h0)), (1, .int s.1), (2, .int s.2)] [] I) (fun s hs => kb_TA_digest_4 C hr hE h0 s.1 s.2 I g_h0 (fun s2 h2 => h2) hs)
/-- OutOrder$Table.digest()I -/
def TA_digest (h0 : Nat) (I : jM) (K : Int32 → Prop) : Prop :=
  TA_digest_4 h0 (0 : Int32) (0 : Int32) I K
set_option maxRecDepth 100000 in
set_option maxHeartbeats 4000000 in
theorem s_TA_digest {l : Launch} {E : jE} (ok : jOK E) (hE : E.2.2.2 = jLX) {h0 : Nat} (g_h0 : jOB E 8 h0) {I : jM} {K : Int32 → Prop} (h : TA_digest h0 I K) : jSi l E ⟨"OutOrder$Table", "digest", "()I"⟩ prog_11_method_6_code 4 (some .int) 0 0 [.ref (E.2.2.1 h0)] I (fun r I2 => I = I2 ∧ K r) := by
  refine jS_ofF (own := "OutOrder$Table") (by decide +kernel) rfl ok (Nat.le_of_ble_eq_true rfl) (fun Z _ C hr => ?_)
  show jJ Z E 4 (jQi Z E (fun r I2 => I = I2 ∧ K r)) 0 [(0, .ref (E.2.2.1 h0))] [] I
  unfold TA_digest at h
  refine j_iconst C d_TA_digest_0 ic_0 ?_
  refine j_istore_n C d_TA_digest_1 rfl (by decide) (lv' := [(1, .int (0 : Int32)), (0, .ref (E.2.2.1 h0))]) rfl ?_
  refine j_iconst C d_TA_digest_2 ic_0 ?_
  refine j_istore_n C d_TA_digest_3 rfl (by decide) (lv' := [(2, .int (0 : Int32)), (1, .int (0 : Int32)), (0, .ref (E.2.2.1 h0))]) rfl ?_
  refine j_lv [2, 1, 0] rfl ?_
  exact k_TA_digest_4 C hr hE h0 (0 : Int32) (0 : Int32) I g_h0 h
theorem d_TA_isHeld_0 : decode prog_11_method_4_code 0 = .ok (.aload_n 0, 1) := by decide +kernel
theorem d_TA_isHeld_1 : decode prog_11_method_4_code 1 = .ok (.getfield 37, 3) := by decide +kernel
theorem d_TA_isHeld_4 : decode prog_11_method_4_code 4 = .ok (.iload_n 1, 1) := by decide +kernel
theorem d_TA_isHeld_5 : decode prog_11_method_4_code 5 = .ok (.ishr, 1) := by decide +kernel
theorem d_TA_isHeld_6 : decode prog_11_method_4_code 6 = .ok (.iconst 1, 1) := by decide +kernel
theorem d_TA_isHeld_7 : decode prog_11_method_4_code 7 = .ok (.iand, 1) := by decide +kernel
theorem d_TA_isHeld_8 : decode prog_11_method_4_code 8 = .ok (.iconst 1, 1) := by decide +kernel
theorem d_TA_isHeld_9 : decode prog_11_method_4_code 9 = .ok (.if_icmp .ne 7, 3) := by decide +kernel
theorem d_TA_isHeld_12 : decode prog_11_method_4_code 12 = .ok (.iconst 1, 1) := by decide +kernel
theorem d_TA_isHeld_13 : decode prog_11_method_4_code 13 = .ok (.goto 4, 3) := by decide +kernel
theorem d_TA_isHeld_16 : decode prog_11_method_4_code 16 = .ok (.iconst 0, 1) := by decide +kernel
theorem d_TA_isHeld_17 : decode prog_11_method_4_code 17 = .ok (.ireturn, 1) := by decide +kernel
/-- OutOrder$Table.isHeld(I)Z -/
def TA_isHeld (h0 : Nat) (v1 : Int32) (I : jM) (K : Int32 → Prop) : Prop :=
  ((¬ (((I h0 5) >>> (v1 &&& 31)) &&& (1 : Int32)) = (1 : Int32) → K (0 : Int32)) ∧ ((((I h0 5) >>> (v1 &&& 31)) &&& (1 : Int32)) = (1 : Int32) → K (1 : Int32)))
set_option maxRecDepth 100000 in
set_option maxHeartbeats 4000000 in
theorem s_TA_isHeld {l : Launch} {E : jE} (ok : jOK E)  {h0 : Nat} {v1 : Int32} (g_h0 : jOB E 8 h0) {I : jM} {K : Int32 → Prop} (h : TA_isHeld h0 v1 I K) : jSi l E ⟨"OutOrder$Table", "isHeld", "(I)Z"⟩ prog_11_method_4_code 2 (some .boolean) 0 0 [.ref (E.2.2.1 h0), .int v1] I (fun r I2 => I = I2 ∧ K r) := by
  refine jS_ofF (own := "OutOrder$Table") (by decide +kernel) rfl ok (Nat.le_of_ble_eq_true rfl) (fun Z _ C hr => ?_)
  show jJ Z E 2 (jQi Z E (fun r I2 => I = I2 ∧ K r)) 0 [(0, .ref (E.2.2.1 h0)), (1, .int v1)] [] I
  unfold TA_isHeld at h
  refine j_aload_n C d_TA_isHeld_0 rfl 0 rfl ?_
  refine fg_TA_37 C g_h0 d_TA_isHeld_1 ?_
  refine j_iload_n C d_TA_isHeld_4 rfl 1 rfl ?_
  refine j_ishr C d_TA_isHeld_5 ?_
  refine j_iconst C d_TA_isHeld_6 ic_1 ?_
  refine j_iand C d_TA_isHeld_7 ?_
  refine j_iconst C d_TA_isHeld_8 ic_1 ?_
  refine j_icmp_ne C d_TA_isHeld_9 (tgt := 16) (by decide) (fun c9 => ?_) (fun c9 => ?_)
  · have h := h.1 c9
    refine j_iconst C d_TA_isHeld_16 ic_0 ?_
    exact j_zret C hr (by decide) d_TA_isHeld_17 ⟨rfl, h⟩
  · have h := h.2 c9
    refine j_iconst C d_TA_isHeld_12 ic_1 ?_
    refine j_goto C d_TA_isHeld_13 (tgt := 17) (by decide) ?_
    exact j_zret C hr (by decide) d_TA_isHeld_17 ⟨rfl, h⟩
theorem d_TA_pairs_0 : decode prog_11_method_5_code 0 = .ok (.iconst 0, 1) := by decide +kernel
theorem d_TA_pairs_1 : decode prog_11_method_5_code 1 = .ok (.istore_n 1, 1) := by decide +kernel
theorem d_TA_pairs_2 : decode prog_11_method_5_code 2 = .ok (.iconst 0, 1) := by decide +kernel
theorem d_TA_pairs_3 : decode prog_11_method_5_code 3 = .ok (.istore_n 2, 1) := by decide +kernel
theorem d_TA_pairs_4 : decode prog_11_method_5_code 4 = .ok (.iload_n 2, 1) := by decide +kernel
theorem d_TA_pairs_5 : decode prog_11_method_5_code 5 = .ok (.aload_n 0, 1) := by decide +kernel
theorem d_TA_pairs_6 : decode prog_11_method_5_code 6 = .ok (.getfield 30, 3) := by decide +kernel
theorem d_TA_pairs_9 : decode prog_11_method_5_code 9 = .ok (.if_icmp .ge 21, 3) := by decide +kernel
theorem d_TA_pairs_12 : decode prog_11_method_5_code 12 = .ok (.iload_n 1, 1) := by decide +kernel
theorem d_TA_pairs_13 : decode prog_11_method_5_code 13 = .ok (.aload_n 0, 1) := by decide +kernel
theorem d_TA_pairs_14 : decode prog_11_method_5_code 14 = .ok (.getfield 23, 3) := by decide +kernel
theorem d_TA_pairs_17 : decode prog_11_method_5_code 17 = .ok (.iload_n 2, 1) := by decide +kernel
theorem d_TA_pairs_18 : decode prog_11_method_5_code 18 = .ok (.iaload, 1) := by decide +kernel
theorem d_TA_pairs_19 : decode prog_11_method_5_code 19 = .ok (.invokestatic 44, 3) := by decide +kernel
theorem d_TA_pairs_22 : decode prog_11_method_5_code 22 = .ok (.iadd, 1) := by decide +kernel
theorem d_TA_pairs_23 : decode prog_11_method_5_code 23 = .ok (.istore_n 1, 1) := by decide +kernel
theorem d_TA_pairs_24 : decode prog_11_method_5_code 24 = .ok (.iinc 2 1, 3) := by decide +kernel
theorem d_TA_pairs_27 : decode prog_11_method_5_code 27 = .ok (.goto (-23), 3) := by decide +kernel
theorem d_TA_pairs_30 : decode prog_11_method_5_code 30 = .ok (.iload_n 1, 1) := by decide +kernel
theorem d_TA_pairs_31 : decode prog_11_method_5_code 31 = .ok (.iconst 2, 1) := by decide +kernel
theorem d_TA_pairs_32 : decode prog_11_method_5_code 32 = .ok (.idiv, 1) := by decide +kernel
theorem d_TA_pairs_33 : decode prog_11_method_5_code 33 = .ok (.ireturn, 1) := by decide +kernel
def TA_pairs_4b (h0 : Nat) (v1 : Int32) (v2 : Int32) (I : jM) (K : Int32 → Prop) (X4 : Int32 × Int32 → Prop) : Prop :=
  (((I h0 4) ≤ v2 → K (v1 / (2 : Int32))) ∧ (¬ (I h0 4) ≤ v2 → (vp_in v2 24 ∧ JI_bitCount (I (jr h0 2) v2.toNatClampNeg) I (fun r_1 => (∀ v1_2 : Int32, v1_2 = (v1 + r_1) → X4 (v1_2, (v2 + 1)))))))
def TA_pairs_4 (h0 : Nat) (v1 : Int32) (v2 : Int32) (I : jM) (K : Int32 → Prop) : Prop :=
  lp (fun (X4 : Int32 × Int32 → Prop) (s : Int32 × Int32) => TA_pairs_4b h0 s.1 s.2 I K X4) (v1, v2)
set_option maxRecDepth 100000 in
set_option maxHeartbeats 4000000 in
theorem kb_TA_pairs_4 {Z : jZ} {E : jE} (C : jC Z E prog_11_method_5_code 3 "OutOrder$Table" 1 20) (hr : (jZh Z).sig.returnType = (some .int)) (hE : E.2.2.2 = jLX)  (h0 : Nat) (v1 : Int32) (v2 : Int32) (I : jM) (g_h0 : jOB E 8 h0) {K : Int32 → Prop} {X4 : Int32 × Int32 → Prop} (hX4 : ∀ s : Int32 × Int32, X4 s → jJ Z E 3 (jQi Z E (fun r I2 => I = I2 ∧ K r)) 4 [(0, .ref (E.2.2.1 h0)), (1, .int s.1), (2, .int s.2)] [] I) (h : TA_pairs_4b h0 v1 v2 I K X4) : jJ Z E 3 (jQi Z E (fun r I2 => I = I2 ∧ K r)) 4 [(0, .ref (E.2.2.1 h0)), (1, .int v1), (2, .int v2)] [] I := by
  unfold TA_pairs_4b at h
  refine j_iload_n C d_TA_pairs_4 rfl 2 rfl ?_
  refine j_aload_n C d_TA_pairs_5 rfl 0 rfl ?_
  refine fg_TA_30 C g_h0 d_TA_pairs_6 ?_
  refine j_icmp_ge C d_TA_pairs_9 (tgt := 30) (by decide) (fun c9 => ?_) (fun c9 => ?_)
  · have h := h.1 c9
    refine j_iload_n C d_TA_pairs_30 rfl 1 rfl ?_
    refine j_iconst C d_TA_pairs_31 ic_2 ?_
    refine j_idiv C d_TA_pairs_32 (by decide) ?_
    exact j_iret C hr d_TA_pairs_33 ⟨rfl, h⟩
  · have h := h.2 c9
    refine j_iload_n C d_TA_pairs_12 rfl 1 rfl ?_
    refine j_aload_n C d_TA_pairs_13 rfl 0 rfl ?_
    refine fg_TA_23 C g_h0 d_TA_pairs_14 ?_
    refine j_iload_n C d_TA_pairs_17 rfl 2 rfl ?_
    obtain ⟨hi, h⟩ := h
    refine j_iaload C (sh_TA_2 hE g_h0) hi d_TA_pairs_18 ?_
    refine j_callSi (As := [.int (I (jr h0 2) v2.toNatClampNeg)]) C cw_TA_44 w_412 rfl rfl (by decide) (by decide) (Nat.le_of_ble_eq_true rfl) d_TA_pairs_19 (s_JI_bitCount C.ok  h) (fun r_1 I2 h => ?_)
    obtain ⟨rfl, h⟩ := h
    refine j_iadd C d_TA_pairs_22 ?_
    refine j_topi (fun v1_2 ev1_2 => ?_)
    have h := h v1_2 ev1_2
    refine j_istore_n C d_TA_pairs_23 rfl (by decide) (lv' := [(1, .int v1_2), (0, .ref (E.2.2.1 h0)), (2, .int v2)]) rfl ?_
    refine j_iinc C d_TA_pairs_24 2 rfl (v := (v2 + 1)) rfl (by decide) (lv' := [(2, .int (v2 + 1)), (1, .int v1_2), (0, .ref (E.2.2.1 h0))]) rfl ?_
    refine j_goto C d_TA_pairs_27 (tgt := 4) (by decide) ?_
    refine j_lv [2, 1, 0] rfl ?_
    exact hX4 (v1_2, (v2 + 1)) h
theorem k_TA_pairs_4 {Z : jZ} {E : jE} (C : jC Z E prog_11_method_5_code 3 "OutOrder$Table" 1 20) (hr : (jZh Z).sig.returnType = (some .int)) (hE : E.2.2.2 = jLX)  (h0 : Nat) (v1 : Int32) (v2 : Int32) (I : jM) (g_h0 : jOB E 8 h0) {K : Int32 → Prop} (h : TA_pairs_4 h0 v1 v2 I K) : jJ Z E 3 (jQi Z E (fun r I2 => I = I2 ∧ K r)) 4 [(0, .ref (E.2.2.1 h0)), (1, .int v1), (2, .int v2)] [] I := by
  unfold TA_pairs_4 at h
  exact h (fun s => jJ Z E 3 (jQi Z E (fun r I2 => I = I2 ∧ K r)) 4 [(0, .ref (E.2.2.1 h0)), (1, .int s.1), (2, .int s.2)] [] I) (fun s hs => kb_TA_pairs_4 C hr hE h0 s.1 s.2 I g_h0 (fun s2 h2 => h2) hs)
/-- OutOrder$Table.pairs()I -/
def TA_pairs (h0 : Nat) (I : jM) (K : Int32 → Prop) : Prop :=
  TA_pairs_4 h0 (0 : Int32) (0 : Int32) I K
set_option maxRecDepth 100000 in
set_option maxHeartbeats 4000000 in
theorem s_TA_pairs {l : Launch} {E : jE} (ok : jOK E) (hE : E.2.2.2 = jLX) {h0 : Nat} (g_h0 : jOB E 8 h0) {I : jM} {K : Int32 → Prop} (h : TA_pairs h0 I K) : jSi l E ⟨"OutOrder$Table", "pairs", "()I"⟩ prog_11_method_5_code 3 (some .int) 1 20 [.ref (E.2.2.1 h0)] I (fun r I2 => I = I2 ∧ K r) := by
  refine jS_ofF (own := "OutOrder$Table") (by decide +kernel) rfl ok (Nat.le_of_ble_eq_true rfl) (fun Z _ C hr => ?_)
  show jJ Z E 3 (jQi Z E (fun r I2 => I = I2 ∧ K r)) 0 [(0, .ref (E.2.2.1 h0))] [] I
  unfold TA_pairs at h
  refine j_iconst C d_TA_pairs_0 ic_0 ?_
  refine j_istore_n C d_TA_pairs_1 rfl (by decide) (lv' := [(1, .int (0 : Int32)), (0, .ref (E.2.2.1 h0))]) rfl ?_
  refine j_iconst C d_TA_pairs_2 ic_0 ?_
  refine j_istore_n C d_TA_pairs_3 rfl (by decide) (lv' := [(2, .int (0 : Int32)), (1, .int (0 : Int32)), (0, .ref (E.2.2.1 h0))]) rfl ?_
  refine j_lv [2, 1, 0] rfl ?_
  exact k_TA_pairs_4 C hr hE h0 (0 : Int32) (0 : Int32) I g_h0 h
theorem d_TA_set_0 : decode prog_11_method_3_code 0 = .ok (.aload_n 0, 1) := by decide +kernel
theorem d_TA_set_1 : decode prog_11_method_3_code 1 = .ok (.getfield 12, 3) := by decide +kernel
theorem d_TA_set_4 : decode prog_11_method_3_code 4 = .ok (.iload_n 3, 1) := by decide +kernel
theorem d_TA_set_5 : decode prog_11_method_3_code 5 = .ok (.invokevirtual 40, 3) := by decide +kernel
theorem d_TA_set_8 : decode prog_11_method_3_code 8 = .ok (.istore 4, 2) := by decide +kernel
theorem d_TA_set_10 : decode prog_11_method_3_code 10 = .ok (.aload_n 0, 1) := by decide +kernel
theorem d_TA_set_11 : decode prog_11_method_3_code 11 = .ok (.getfield 20, 3) := by decide +kernel
theorem d_TA_set_14 : decode prog_11_method_3_code 14 = .ok (.iload_n 1, 1) := by decide +kernel
theorem d_TA_set_15 : decode prog_11_method_3_code 15 = .ok (.aaload, 1) := by decide +kernel
theorem d_TA_set_16 : decode prog_11_method_3_code 16 = .ok (.iload_n 2, 1) := by decide +kernel
theorem d_TA_set_17 : decode prog_11_method_3_code 17 = .ok (.iload 4, 2) := by decide +kernel
theorem d_TA_set_19 : decode prog_11_method_3_code 19 = .ok (.iastore, 1) := by decide +kernel
theorem d_TA_set_20 : decode prog_11_method_3_code 20 = .ok (.aload_n 0, 1) := by decide +kernel
theorem d_TA_set_21 : decode prog_11_method_3_code 21 = .ok (.getfield 20, 3) := by decide +kernel
theorem d_TA_set_24 : decode prog_11_method_3_code 24 = .ok (.iload_n 2, 1) := by decide +kernel
theorem d_TA_set_25 : decode prog_11_method_3_code 25 = .ok (.aaload, 1) := by decide +kernel
theorem d_TA_set_26 : decode prog_11_method_3_code 26 = .ok (.iload_n 1, 1) := by decide +kernel
theorem d_TA_set_27 : decode prog_11_method_3_code 27 = .ok (.iload 4, 2) := by decide +kernel
theorem d_TA_set_29 : decode prog_11_method_3_code 29 = .ok (.iastore, 1) := by decide +kernel
theorem d_TA_set_30 : decode prog_11_method_3_code 30 = .ok (.iload_n 1, 1) := by decide +kernel
theorem d_TA_set_31 : decode prog_11_method_3_code 31 = .ok (.iload_n 2, 1) := by decide +kernel
theorem d_TA_set_32 : decode prog_11_method_3_code 32 = .ok (.if_icmp .ne 4, 3) := by decide +kernel
theorem d_TA_set_35 : decode prog_11_method_3_code 35 = .ok (.return_, 1) := by decide +kernel
theorem d_TA_set_36 : decode prog_11_method_3_code 36 = .ok (.iload 4, 2) := by decide +kernel
theorem d_TA_set_38 : decode prog_11_method_3_code 38 = .ok (.ifCond .eq 30, 3) := by decide +kernel
theorem d_TA_set_41 : decode prog_11_method_3_code 41 = .ok (.aload_n 0, 1) := by decide +kernel
theorem d_TA_set_42 : decode prog_11_method_3_code 42 = .ok (.getfield 23, 3) := by decide +kernel
theorem d_TA_set_45 : decode prog_11_method_3_code 45 = .ok (.iload_n 1, 1) := by decide +kernel
theorem d_TA_set_46 : decode prog_11_method_3_code 46 = .ok (.dup2, 1) := by decide +kernel
theorem d_TA_set_47 : decode prog_11_method_3_code 47 = .ok (.iaload, 1) := by decide +kernel
theorem d_TA_set_48 : decode prog_11_method_3_code 48 = .ok (.iconst 1, 1) := by decide +kernel
theorem d_TA_set_49 : decode prog_11_method_3_code 49 = .ok (.iload_n 2, 1) := by decide +kernel
theorem d_TA_set_50 : decode prog_11_method_3_code 50 = .ok (.ishl, 1) := by decide +kernel
theorem d_TA_set_51 : decode prog_11_method_3_code 51 = .ok (.ior, 1) := by decide +kernel
theorem d_TA_set_52 : decode prog_11_method_3_code 52 = .ok (.iastore, 1) := by decide +kernel
theorem d_TA_set_53 : decode prog_11_method_3_code 53 = .ok (.aload_n 0, 1) := by decide +kernel
theorem d_TA_set_54 : decode prog_11_method_3_code 54 = .ok (.getfield 23, 3) := by decide +kernel
theorem d_TA_set_57 : decode prog_11_method_3_code 57 = .ok (.iload_n 2, 1) := by decide +kernel
theorem d_TA_set_58 : decode prog_11_method_3_code 58 = .ok (.dup2, 1) := by decide +kernel
theorem d_TA_set_59 : decode prog_11_method_3_code 59 = .ok (.iaload, 1) := by decide +kernel
theorem d_TA_set_60 : decode prog_11_method_3_code 60 = .ok (.iconst 1, 1) := by decide +kernel
theorem d_TA_set_61 : decode prog_11_method_3_code 61 = .ok (.iload_n 1, 1) := by decide +kernel
theorem d_TA_set_62 : decode prog_11_method_3_code 62 = .ok (.ishl, 1) := by decide +kernel
theorem d_TA_set_63 : decode prog_11_method_3_code 63 = .ok (.ior, 1) := by decide +kernel
theorem d_TA_set_64 : decode prog_11_method_3_code 64 = .ok (.iastore, 1) := by decide +kernel
theorem d_TA_set_65 : decode prog_11_method_3_code 65 = .ok (.goto 31, 3) := by decide +kernel
theorem d_TA_set_68 : decode prog_11_method_3_code 68 = .ok (.aload_n 0, 1) := by decide +kernel
theorem d_TA_set_69 : decode prog_11_method_3_code 69 = .ok (.getfield 23, 3) := by decide +kernel
theorem d_TA_set_72 : decode prog_11_method_3_code 72 = .ok (.iload_n 1, 1) := by decide +kernel
theorem d_TA_set_73 : decode prog_11_method_3_code 73 = .ok (.dup2, 1) := by decide +kernel
theorem d_TA_set_74 : decode prog_11_method_3_code 74 = .ok (.iaload, 1) := by decide +kernel
theorem d_TA_set_75 : decode prog_11_method_3_code 75 = .ok (.iconst 1, 1) := by decide +kernel
theorem d_TA_set_76 : decode prog_11_method_3_code 76 = .ok (.iload_n 2, 1) := by decide +kernel
theorem d_TA_set_77 : decode prog_11_method_3_code 77 = .ok (.ishl, 1) := by decide +kernel
theorem d_TA_set_78 : decode prog_11_method_3_code 78 = .ok (.iconst (-1), 1) := by decide +kernel
theorem d_TA_set_79 : decode prog_11_method_3_code 79 = .ok (.ixor, 1) := by decide +kernel
theorem d_TA_set_80 : decode prog_11_method_3_code 80 = .ok (.iand, 1) := by decide +kernel
theorem d_TA_set_81 : decode prog_11_method_3_code 81 = .ok (.iastore, 1) := by decide +kernel
theorem d_TA_set_82 : decode prog_11_method_3_code 82 = .ok (.aload_n 0, 1) := by decide +kernel
theorem d_TA_set_83 : decode prog_11_method_3_code 83 = .ok (.getfield 23, 3) := by decide +kernel
theorem d_TA_set_86 : decode prog_11_method_3_code 86 = .ok (.iload_n 2, 1) := by decide +kernel
theorem d_TA_set_87 : decode prog_11_method_3_code 87 = .ok (.dup2, 1) := by decide +kernel
theorem d_TA_set_88 : decode prog_11_method_3_code 88 = .ok (.iaload, 1) := by decide +kernel
theorem d_TA_set_89 : decode prog_11_method_3_code 89 = .ok (.iconst 1, 1) := by decide +kernel
theorem d_TA_set_90 : decode prog_11_method_3_code 90 = .ok (.iload_n 1, 1) := by decide +kernel
theorem d_TA_set_91 : decode prog_11_method_3_code 91 = .ok (.ishl, 1) := by decide +kernel
theorem d_TA_set_92 : decode prog_11_method_3_code 92 = .ok (.iconst (-1), 1) := by decide +kernel
theorem d_TA_set_93 : decode prog_11_method_3_code 93 = .ok (.ixor, 1) := by decide +kernel
theorem d_TA_set_94 : decode prog_11_method_3_code 94 = .ok (.iand, 1) := by decide +kernel
theorem d_TA_set_95 : decode prog_11_method_3_code 95 = .ok (.iastore, 1) := by decide +kernel
theorem d_TA_set_96 : decode prog_11_method_3_code 96 = .ok (.return_, 1) := by decide +kernel
/-- OutOrder$Table.set(III)V -/
def TA_set (h0 : Nat) (v1 : Int32) (v2 : Int32) (v3 : Int32) (I : jM) (K : jM → Prop) : Prop :=
  MO_reduce (jr h0 0) v3 I (fun r_1 => (vp_in v1 24 ∧ (vp_in v2 24 ∧ (∀ I_3 : jM, I_3 = jwr I (jw (jr h0 1) v1.toNatClampNeg) v2.toNatClampNeg r_1 → (vp_in v2 24 ∧ (vp_in v1 24 ∧ (∀ I_5 : jM, I_5 = jwr I_3 (jw (jr h0 1) v2.toNatClampNeg) v1.toNatClampNeg r_1 → ((¬ v1 = v2 → ((r_1 = 0 → (vp_in v1 24 ∧ (vp_in v1 24 ∧ (∀ I_6 : jM, I_6 = jwr I_5 (jr h0 2) v1.toNatClampNeg ((I_5 (jr h0 2) v1.toNatClampNeg) &&& (((1 : Int32) <<< (v2 &&& 31)) ^^^ (-1 : Int32))) → (vp_in v2 24 ∧ (vp_in v2 24 ∧ (∀ I_7 : jM, I_7 = jwr I_6 (jr h0 2) v2.toNatClampNeg ((I_6 (jr h0 2) v2.toNatClampNeg) &&& (((1 : Int32) <<< (v1 &&& 31)) ^^^ (-1 : Int32))) → K I_7))))))) ∧ (¬ r_1 = 0 → (vp_in v1 24 ∧ (vp_in v1 24 ∧ (∀ I_8 : jM, I_8 = jwr I_5 (jr h0 2) v1.toNatClampNeg ((I_5 (jr h0 2) v1.toNatClampNeg) ||| ((1 : Int32) <<< (v2 &&& 31))) → (vp_in v2 24 ∧ (vp_in v2 24 ∧ (∀ I_9 : jM, I_9 = jwr I_8 (jr h0 2) v2.toNatClampNeg ((I_8 (jr h0 2) v2.toNatClampNeg) ||| ((1 : Int32) <<< (v1 &&& 31))) → K I_9))))))))) ∧ (v1 = v2 → K I_5)))))))))
set_option maxRecDepth 100000 in
set_option maxHeartbeats 4000000 in
theorem s_TA_set {l : Launch} {E : jE} (ok : jOK E) (hE : E.2.2.2 = jLX) {h0 : Nat} {v1 : Int32} {v2 : Int32} {v3 : Int32} (g_h0 : jOB E 8 h0) {I : jM} {K : jM → Prop} (h : TA_set h0 v1 v2 v3 I K) : jSv l E ⟨"OutOrder$Table", "set", "(III)V"⟩ prog_11_method_3_code 5 none 2 43 [.ref (E.2.2.1 h0), .int v1, .int v2, .int v3] I K := by
  refine jS_ofF (own := "OutOrder$Table") (by decide +kernel) rfl ok (Nat.le_of_ble_eq_true rfl) (fun Z _ C hr => ?_)
  show jJ Z E 5 (jQv Z E K) 0 [(0, .ref (E.2.2.1 h0)), (1, .int v1), (2, .int v2), (3, .int v3)] [] I
  unfold TA_set at h
  refine j_aload_n C d_TA_set_0 rfl 0 rfl ?_
  refine fg_TA_12 C g_h0 d_TA_set_1 ?_
  refine j_iload_n C d_TA_set_4 rfl 3 rfl ?_
  refine j_callVi (As := [.int v3]) C jcl_MO cw_TA_40 w_370 w_371 (sh_TA_0 hE g_h0) rfl rfl (by decide) (by decide) (Nat.le_of_ble_eq_true rfl) d_TA_set_5 (s_MO_reduce C.ok (sh_TA_0 hE g_h0) h) (fun r_1 I2 h => ?_)
  obtain ⟨rfl, h⟩ := h
  refine j_istore C d_TA_set_8 (by decide) (lv' := [(4, .int r_1), (0, .ref (E.2.2.1 h0)), (1, .int v1), (2, .int v2), (3, .int v3)]) rfl ?_
  refine j_aload_n C d_TA_set_10 rfl 1 rfl ?_
  refine fg_TA_20 C g_h0 d_TA_set_11 ?_
  refine j_iload_n C d_TA_set_14 rfl 2 rfl ?_
  obtain ⟨hi_2, h⟩ := h
  refine j_aaload C (sh_TA_1 hE g_h0) hi_2 d_TA_set_15 ?_
  refine j_iload_n C d_TA_set_16 rfl 3 rfl ?_
  refine j_iload C d_TA_set_17 0 rfl ?_
  obtain ⟨hi, h⟩ := h
  refine j_iastore C (sr_24_24 hE (sh_TA_1 hE g_h0) hi_2) hi d_TA_set_19 ?_
  have h := h _ rfl
  generalize eI_3 : (jwr I (jw (jr h0 1) v1.toNatClampNeg) v2.toNatClampNeg r_1 : jM) = I_3 at h ⊢
  refine j_aload_n C d_TA_set_20 rfl 1 rfl ?_
  refine fg_TA_20 C g_h0 d_TA_set_21 ?_
  refine j_iload_n C d_TA_set_24 rfl 3 rfl ?_
  obtain ⟨hi_4, h⟩ := h
  refine j_aaload C (sh_TA_1 hE g_h0) hi_4 d_TA_set_25 ?_
  refine j_iload_n C d_TA_set_26 rfl 2 rfl ?_
  refine j_iload C d_TA_set_27 0 rfl ?_
  obtain ⟨hi, h⟩ := h
  refine j_iastore C (sr_24_24 hE (sh_TA_1 hE g_h0) hi_4) hi d_TA_set_29 ?_
  have h := h _ rfl
  generalize eI_5 : (jwr I_3 (jw (jr h0 1) v2.toNatClampNeg) v1.toNatClampNeg r_1 : jM) = I_5 at h ⊢
  refine j_iload_n C d_TA_set_30 rfl 2 rfl ?_
  refine j_iload_n C d_TA_set_31 rfl 3 rfl ?_
  refine j_icmp_ne C d_TA_set_32 (tgt := 36) (by decide) (fun c32 => ?_) (fun c32 => ?_)
  · have h := h.1 c32
    refine j_iload C d_TA_set_36 0 rfl ?_
    refine j_if_eq C d_TA_set_38 (tgt := 68) (by decide) (fun c38 => ?_) (fun c38 => ?_)
    · have h := h.1 c38
      refine j_aload_n C d_TA_set_68 rfl 1 rfl ?_
      refine fg_TA_23 C g_h0 d_TA_set_69 ?_
      refine j_iload_n C d_TA_set_72 rfl 2 rfl ?_
      refine j_dup2 C d_TA_set_73 rfl rfl ?_
      obtain ⟨hi, h⟩ := h
      refine j_iaload C (sh_TA_2 hE g_h0) hi d_TA_set_74 ?_
      refine j_iconst C d_TA_set_75 ic_1 ?_
      refine j_iload_n C d_TA_set_76 rfl 3 rfl ?_
      refine j_ishl C d_TA_set_77 ?_
      refine j_iconst C d_TA_set_78 ic_m1 ?_
      refine j_ixor C d_TA_set_79 ?_
      refine j_iand C d_TA_set_80 ?_
      obtain ⟨hi, h⟩ := h
      refine j_iastore C (sh_TA_2 hE g_h0) hi d_TA_set_81 ?_
      have h := h _ rfl
      generalize eI_6 : (jwr I_5 (jr h0 2) v1.toNatClampNeg ((I_5 (jr h0 2) v1.toNatClampNeg) &&& (((1 : Int32) <<< (v2 &&& 31)) ^^^ (-1 : Int32))) : jM) = I_6 at h ⊢
      refine j_aload_n C d_TA_set_82 rfl 1 rfl ?_
      refine fg_TA_23 C g_h0 d_TA_set_83 ?_
      refine j_iload_n C d_TA_set_86 rfl 3 rfl ?_
      refine j_dup2 C d_TA_set_87 rfl rfl ?_
      obtain ⟨hi, h⟩ := h
      refine j_iaload C (sh_TA_2 hE g_h0) hi d_TA_set_88 ?_
      refine j_iconst C d_TA_set_89 ic_1 ?_
      refine j_iload_n C d_TA_set_90 rfl 2 rfl ?_
      refine j_ishl C d_TA_set_91 ?_
      refine j_iconst C d_TA_set_92 ic_m1 ?_
      refine j_ixor C d_TA_set_93 ?_
      refine j_iand C d_TA_set_94 ?_
      obtain ⟨hi, h⟩ := h
      refine j_iastore C (sh_TA_2 hE g_h0) hi d_TA_set_95 ?_
      have h := h _ rfl
      generalize eI_7 : (jwr I_6 (jr h0 2) v2.toNatClampNeg ((I_6 (jr h0 2) v2.toNatClampNeg) &&& (((1 : Int32) <<< (v1 &&& 31)) ^^^ (-1 : Int32))) : jM) = I_7 at h ⊢
      exact j_vret C hr d_TA_set_96 h
    · have h := h.2 c38
      refine j_aload_n C d_TA_set_41 rfl 1 rfl ?_
      refine fg_TA_23 C g_h0 d_TA_set_42 ?_
      refine j_iload_n C d_TA_set_45 rfl 2 rfl ?_
      refine j_dup2 C d_TA_set_46 rfl rfl ?_
      obtain ⟨hi, h⟩ := h
      refine j_iaload C (sh_TA_2 hE g_h0) hi d_TA_set_47 ?_
      refine j_iconst C d_TA_set_48 ic_1 ?_
      refine j_iload_n C d_TA_set_49 rfl 3 rfl ?_
      refine j_ishl C d_TA_set_50 ?_
      refine j_ior C d_TA_set_51 ?_
      obtain ⟨hi, h⟩ := h
      refine j_iastore C (sh_TA_2 hE g_h0) hi d_TA_set_52 ?_
      have h := h _ rfl
      generalize eI_8 : (jwr I_5 (jr h0 2) v1.toNatClampNeg ((I_5 (jr h0 2) v1.toNatClampNeg) ||| ((1 : Int32) <<< (v2 &&& 31))) : jM) = I_8 at h ⊢
      refine j_aload_n C d_TA_set_53 rfl 1 rfl ?_
      refine fg_TA_23 C g_h0 d_TA_set_54 ?_
      refine j_iload_n C d_TA_set_57 rfl 3 rfl ?_
      refine j_dup2 C d_TA_set_58 rfl rfl ?_
      obtain ⟨hi, h⟩ := h
      refine j_iaload C (sh_TA_2 hE g_h0) hi d_TA_set_59 ?_
      refine j_iconst C d_TA_set_60 ic_1 ?_
      refine j_iload_n C d_TA_set_61 rfl 2 rfl ?_
      refine j_ishl C d_TA_set_62 ?_
      refine j_ior C d_TA_set_63 ?_
      obtain ⟨hi, h⟩ := h
      refine j_iastore C (sh_TA_2 hE g_h0) hi d_TA_set_64 ?_
      have h := h _ rfl
      generalize eI_9 : (jwr I_8 (jr h0 2) v2.toNatClampNeg ((I_8 (jr h0 2) v2.toNatClampNeg) ||| ((1 : Int32) <<< (v1 &&& 31))) : jM) = I_9 at h ⊢
      refine j_goto C d_TA_set_65 (tgt := 96) (by decide) ?_
      exact j_vret C hr d_TA_set_96 h
  · have h := h.2 c32
    exact j_vret C hr d_TA_set_35 h
