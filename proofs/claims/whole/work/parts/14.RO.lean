theorem d_RO_set_0 : decode prog_9_method_3_code 0 = .ok (.aload_n 0, 1) := by decide +kernel
theorem d_RO_set_1 : decode prog_9_method_3_code 1 = .ok (.getfield 9, 3) := by decide +kernel
theorem d_RO_set_4 : decode prog_9_method_3_code 4 = .ok (.iload_n 1, 1) := by decide +kernel
theorem d_RO_set_5 : decode prog_9_method_3_code 5 = .ok (.iload_n 2, 1) := by decide +kernel
theorem d_RO_set_6 : decode prog_9_method_3_code 6 = .ok (.iastore, 1) := by decide +kernel
theorem d_RO_set_7 : decode prog_9_method_3_code 7 = .ok (.aload_n 0, 1) := by decide +kernel
theorem d_RO_set_8 : decode prog_9_method_3_code 8 = .ok (.getfield 15, 3) := by decide +kernel
theorem d_RO_set_11 : decode prog_9_method_3_code 11 = .ok (.iload_n 2, 1) := by decide +kernel
theorem d_RO_set_12 : decode prog_9_method_3_code 12 = .ok (.iload_n 1, 1) := by decide +kernel
theorem d_RO_set_13 : decode prog_9_method_3_code 13 = .ok (.iastore, 1) := by decide +kernel
theorem d_RO_set_14 : decode prog_9_method_3_code 14 = .ok (.return_, 1) := by decide +kernel
/-- OutOrder$Row.set(II)V -/
def RO_set (h0 : Nat) (v1 : Int32) (v2 : Int32) (I : jM) (K : jM → Prop) : Prop :=
  (vp_in v1 24 ∧ (∀ I_1 : jM, I_1 = jwr I (jr h0 0) v1.toNatClampNeg v2 → (vp_in v2 24 ∧ (∀ I_2 : jM, I_2 = jwr I_1 (jr h0 1) v2.toNatClampNeg v1 → K I_2))))
set_option maxRecDepth 100000 in
set_option maxHeartbeats 4000000 in
theorem s_RO_set {l : Launch} {E : jE} (ok : jOK E) (hE : E.2.2.2 = jLX) {h0 : Nat} {v1 : Int32} {v2 : Int32} (g_h0 : jOB E 6 h0) {I : jM} {K : jM → Prop} (h : RO_set h0 v1 v2 I K) : jSv l E ⟨"OutOrder$Row", "set", "(II)V"⟩ prog_9_method_3_code 3 none 0 0 [.ref (E.2.2.1 h0), .int v1, .int v2] I K := by
  refine jS_ofF (own := "OutOrder$Row") (by decide +kernel) rfl ok (Nat.le_of_ble_eq_true rfl) (fun Z _ C hr => ?_)
  show jJ Z E 3 (jQv Z E K) 0 [(0, .ref (E.2.2.1 h0)), (1, .int v1), (2, .int v2)] [] I
  unfold RO_set at h
  refine j_aload_n C d_RO_set_0 rfl 0 rfl ?_
  refine fg_RO_9 C g_h0 d_RO_set_1 ?_
  refine j_iload_n C d_RO_set_4 rfl 1 rfl ?_
  refine j_iload_n C d_RO_set_5 rfl 2 rfl ?_
  obtain ⟨hi, h⟩ := h
  refine j_iastore C (sh_RO_0 hE g_h0) hi d_RO_set_6 ?_
  have h := h _ rfl
  generalize eI_1 : (jwr I (jr h0 0) v1.toNatClampNeg v2 : jM) = I_1 at h ⊢
  refine j_aload_n C d_RO_set_7 rfl 0 rfl ?_
  refine fg_RO_15 C g_h0 d_RO_set_8 ?_
  refine j_iload_n C d_RO_set_11 rfl 2 rfl ?_
  refine j_iload_n C d_RO_set_12 rfl 1 rfl ?_
  obtain ⟨hi, h⟩ := h
  refine j_iastore C (sh_RO_1 hE g_h0) hi d_RO_set_13 ?_
  have h := h _ rfl
  generalize eI_2 : (jwr I_1 (jr h0 1) v2.toNatClampNeg v1 : jM) = I_2 at h ⊢
  exact j_vret C hr d_RO_set_14 h
theorem d_RO_byNumbers_0 : decode prog_9_method_2_code 0 = .ok (.aload_n 0, 1) := by decide +kernel
theorem d_RO_byNumbers_1 : decode prog_9_method_2_code 1 = .ok (.iload_n 1, 1) := by decide +kernel
theorem d_RO_byNumbers_2 : decode prog_9_method_2_code 2 = .ok (.putfield 18, 3) := by decide +kernel
theorem d_RO_byNumbers_5 : decode prog_9_method_2_code 5 = .ok (.iconst 0, 1) := by decide +kernel
theorem d_RO_byNumbers_6 : decode prog_9_method_2_code 6 = .ok (.istore_n 2, 1) := by decide +kernel
theorem d_RO_byNumbers_7 : decode prog_9_method_2_code 7 = .ok (.iload_n 2, 1) := by decide +kernel
theorem d_RO_byNumbers_8 : decode prog_9_method_2_code 8 = .ok (.aload_n 0, 1) := by decide +kernel
theorem d_RO_byNumbers_9 : decode prog_9_method_2_code 9 = .ok (.getfield 18, 3) := by decide +kernel
theorem d_RO_byNumbers_12 : decode prog_9_method_2_code 12 = .ok (.if_icmp .ge 15, 3) := by decide +kernel
theorem d_RO_byNumbers_15 : decode prog_9_method_2_code 15 = .ok (.aload_n 0, 1) := by decide +kernel
theorem d_RO_byNumbers_16 : decode prog_9_method_2_code 16 = .ok (.iload_n 2, 1) := by decide +kernel
theorem d_RO_byNumbers_17 : decode prog_9_method_2_code 17 = .ok (.iload_n 2, 1) := by decide +kernel
theorem d_RO_byNumbers_18 : decode prog_9_method_2_code 18 = .ok (.invokevirtual 22, 3) := by decide +kernel
theorem d_RO_byNumbers_21 : decode prog_9_method_2_code 21 = .ok (.iinc 2 1, 3) := by decide +kernel
theorem d_RO_byNumbers_24 : decode prog_9_method_2_code 24 = .ok (.goto (-17), 3) := by decide +kernel
theorem d_RO_byNumbers_27 : decode prog_9_method_2_code 27 = .ok (.return_, 1) := by decide +kernel
def RO_byNumbers_7b (h0 : Nat) (v2 : Int32) (I : jM) (K : jM → Prop) (X7 : Int32 × jM → Prop) : Prop :=
  (((I h0 2) ≤ v2 → K I) ∧ (¬ (I h0 2) ≤ v2 → RO_set h0 v2 v2 I (fun I_2 => X7 ((v2 + 1), I_2))))
def RO_byNumbers_7 (h0 : Nat) (v2 : Int32) (I : jM) (K : jM → Prop) : Prop :=
  lp (fun (X7 : Int32 × jM → Prop) (s : Int32 × jM) => RO_byNumbers_7b h0 s.1 s.2 K X7) (v2, I)
set_option maxRecDepth 100000 in
set_option maxHeartbeats 4000000 in
theorem kb_RO_byNumbers_7 {Z : jZ} {E : jE} (C : jC Z E prog_9_method_2_code 3 "OutOrder$Row" 1 22) (hr : (jZh Z).sig.returnType = none) (hE : E.2.2.2 = jLX)  (h0 : Nat) (v2 : Int32) (I : jM) (g_h0 : jOB E 6 h0) {K : jM → Prop} {X7 : Int32 × jM → Prop} (hX7 : ∀ s : Int32 × jM, X7 s → jJ Z E 3 (jQv Z E K) 7 [(0, .ref (E.2.2.1 h0)), (2, .int s.1)] [] s.2) (h : RO_byNumbers_7b h0 v2 I K X7) : jJ Z E 3 (jQv Z E K) 7 [(0, .ref (E.2.2.1 h0)), (2, .int v2)] [] I := by
  unfold RO_byNumbers_7b at h
  refine j_iload_n C d_RO_byNumbers_7 rfl 1 rfl ?_
  refine j_aload_n C d_RO_byNumbers_8 rfl 0 rfl ?_
  refine fg_RO_18 C g_h0 d_RO_byNumbers_9 ?_
  refine j_icmp_ge C d_RO_byNumbers_12 (tgt := 27) (by decide) (fun c12 => ?_) (fun c12 => ?_)
  · have h := h.1 c12
    exact j_vret C hr d_RO_byNumbers_27 h
  · have h := h.2 c12
    refine j_aload_n C d_RO_byNumbers_15 rfl 0 rfl ?_
    refine j_iload_n C d_RO_byNumbers_16 rfl 1 rfl ?_
    refine j_iload_n C d_RO_byNumbers_17 rfl 1 rfl ?_
    refine j_callVv (As := [.int v2, .int v2]) C jcl_RO cw_RO_22 w_289 w_290 g_h0 rfl rfl (by decide) (by decide) (Nat.le_of_ble_eq_true rfl) d_RO_byNumbers_18 (s_RO_set C.ok hE g_h0 h) (fun I_2 h => ?_)
    refine j_iinc C d_RO_byNumbers_21 1 rfl (v := (v2 + 1)) rfl (by decide) (lv' := [(2, .int (v2 + 1)), (0, .ref (E.2.2.1 h0))]) rfl ?_
    refine j_goto C d_RO_byNumbers_24 (tgt := 7) (by decide) ?_
    refine j_lv [1, 0] rfl ?_
    exact hX7 ((v2 + 1), I_2) h
theorem k_RO_byNumbers_7 {Z : jZ} {E : jE} (C : jC Z E prog_9_method_2_code 3 "OutOrder$Row" 1 22) (hr : (jZh Z).sig.returnType = none) (hE : E.2.2.2 = jLX)  (h0 : Nat) (v2 : Int32) (I : jM) (g_h0 : jOB E 6 h0) {K : jM → Prop} (h : RO_byNumbers_7 h0 v2 I K) : jJ Z E 3 (jQv Z E K) 7 [(0, .ref (E.2.2.1 h0)), (2, .int v2)] [] I := by
  unfold RO_byNumbers_7 at h
  exact h (fun s => jJ Z E 3 (jQv Z E K) 7 [(0, .ref (E.2.2.1 h0)), (2, .int s.1)] [] s.2) (fun s hs => kb_RO_byNumbers_7 C hr hE h0 s.1 s.2 g_h0 (fun s2 h2 => h2) hs)
/-- OutOrder$Row.byNumbers(I)V -/
def RO_byNumbers (h0 : Nat) (v1 : Int32) (I : jM) (K : jM → Prop) : Prop :=
  (∀ I_1 : jM, I_1 = jwr I h0 2 v1 → RO_byNumbers_7 h0 (0 : Int32) I_1 K)
set_option maxRecDepth 100000 in
set_option maxHeartbeats 4000000 in
theorem s_RO_byNumbers {l : Launch} {E : jE} (ok : jOK E) (hE : E.2.2.2 = jLX) {h0 : Nat} {v1 : Int32} (g_h0 : jOB E 6 h0) {I : jM} {K : jM → Prop} (h : RO_byNumbers h0 v1 I K) : jSv l E ⟨"OutOrder$Row", "byNumbers", "(I)V"⟩ prog_9_method_2_code 3 none 1 22 [.ref (E.2.2.1 h0), .int v1] I K := by
  refine jS_ofF (own := "OutOrder$Row") (by decide +kernel) rfl ok (Nat.le_of_ble_eq_true rfl) (fun Z _ C hr => ?_)
  show jJ Z E 3 (jQv Z E K) 0 [(0, .ref (E.2.2.1 h0)), (1, .int v1)] [] I
  unfold RO_byNumbers at h
  refine j_aload_n C d_RO_byNumbers_0 rfl 0 rfl ?_
  refine j_iload_n C d_RO_byNumbers_1 rfl 1 rfl ?_
  refine fp_RO_18 C g_h0 d_RO_byNumbers_2 ?_
  have h := h _ rfl
  generalize eI_1 : (jwr I h0 2 v1 : jM) = I_1 at h ⊢
  refine j_iconst C d_RO_byNumbers_5 ic_0 ?_
  refine j_istore_n C d_RO_byNumbers_6 rfl (by decide) (lv' := [(2, .int (0 : Int32)), (0, .ref (E.2.2.1 h0)), (1, .int v1)]) rfl ?_
  refine j_lv [1, 0] rfl ?_
  exact k_RO_byNumbers_7 C hr hE h0 (0 : Int32) I_1 g_h0 h
theorem d_RO_exchange_0 : decode prog_9_method_4_code 0 = .ok (.aload_n 0, 1) := by decide +kernel
theorem d_RO_exchange_1 : decode prog_9_method_4_code 1 = .ok (.getfield 9, 3) := by decide +kernel
theorem d_RO_exchange_4 : decode prog_9_method_4_code 4 = .ok (.iload_n 1, 1) := by decide +kernel
theorem d_RO_exchange_5 : decode prog_9_method_4_code 5 = .ok (.iaload, 1) := by decide +kernel
theorem d_RO_exchange_6 : decode prog_9_method_4_code 6 = .ok (.istore_n 3, 1) := by decide +kernel
theorem d_RO_exchange_7 : decode prog_9_method_4_code 7 = .ok (.aload_n 0, 1) := by decide +kernel
theorem d_RO_exchange_8 : decode prog_9_method_4_code 8 = .ok (.iload_n 1, 1) := by decide +kernel
theorem d_RO_exchange_9 : decode prog_9_method_4_code 9 = .ok (.aload_n 0, 1) := by decide +kernel
theorem d_RO_exchange_10 : decode prog_9_method_4_code 10 = .ok (.getfield 9, 3) := by decide +kernel
theorem d_RO_exchange_13 : decode prog_9_method_4_code 13 = .ok (.iload_n 2, 1) := by decide +kernel
theorem d_RO_exchange_14 : decode prog_9_method_4_code 14 = .ok (.iaload, 1) := by decide +kernel
theorem d_RO_exchange_15 : decode prog_9_method_4_code 15 = .ok (.invokevirtual 22, 3) := by decide +kernel
theorem d_RO_exchange_18 : decode prog_9_method_4_code 18 = .ok (.aload_n 0, 1) := by decide +kernel
theorem d_RO_exchange_19 : decode prog_9_method_4_code 19 = .ok (.iload_n 2, 1) := by decide +kernel
theorem d_RO_exchange_20 : decode prog_9_method_4_code 20 = .ok (.iload_n 3, 1) := by decide +kernel
theorem d_RO_exchange_21 : decode prog_9_method_4_code 21 = .ok (.invokevirtual 22, 3) := by decide +kernel
theorem d_RO_exchange_24 : decode prog_9_method_4_code 24 = .ok (.return_, 1) := by decide +kernel
/-- OutOrder$Row.exchange(II)V -/
def RO_exchange (h0 : Nat) (v1 : Int32) (v2 : Int32) (I : jM) (K : jM → Prop) : Prop :=
  (vp_in v1 24 ∧ (∀ v3_1 : Int32, v3_1 = (I (jr h0 0) v1.toNatClampNeg) → (vp_in v2 24 ∧ RO_set h0 v1 (I (jr h0 0) v2.toNatClampNeg) I (fun I_3 => RO_set h0 v2 v3_1 I_3 (fun I_5 => K I_5)))))
set_option maxRecDepth 100000 in
set_option maxHeartbeats 4000000 in
theorem s_RO_exchange {l : Launch} {E : jE} (ok : jOK E) (hE : E.2.2.2 = jLX) {h0 : Nat} {v1 : Int32} {v2 : Int32} (g_h0 : jOB E 6 h0) {I : jM} {K : jM → Prop} (h : RO_exchange h0 v1 v2 I K) : jSv l E ⟨"OutOrder$Row", "exchange", "(II)V"⟩ prog_9_method_4_code 4 none 1 22 [.ref (E.2.2.1 h0), .int v1, .int v2] I K := by
  refine jS_ofF (own := "OutOrder$Row") (by decide +kernel) rfl ok (Nat.le_of_ble_eq_true rfl) (fun Z _ C hr => ?_)
  show jJ Z E 4 (jQv Z E K) 0 [(0, .ref (E.2.2.1 h0)), (1, .int v1), (2, .int v2)] [] I
  unfold RO_exchange at h
  refine j_aload_n C d_RO_exchange_0 rfl 0 rfl ?_
  refine fg_RO_9 C g_h0 d_RO_exchange_1 ?_
  refine j_iload_n C d_RO_exchange_4 rfl 1 rfl ?_
  obtain ⟨hi, h⟩ := h
  refine j_iaload C (sh_RO_0 hE g_h0) hi d_RO_exchange_5 ?_
  refine j_topi (fun v3_1 ev3_1 => ?_)
  have h := h v3_1 ev3_1
  refine j_istore_n C d_RO_exchange_6 rfl (by decide) (lv' := [(3, .int v3_1), (0, .ref (E.2.2.1 h0)), (1, .int v1), (2, .int v2)]) rfl ?_
  refine j_aload_n C d_RO_exchange_7 rfl 1 rfl ?_
  refine j_iload_n C d_RO_exchange_8 rfl 2 rfl ?_
  refine j_aload_n C d_RO_exchange_9 rfl 1 rfl ?_
  refine fg_RO_9 C g_h0 d_RO_exchange_10 ?_
  refine j_iload_n C d_RO_exchange_13 rfl 3 rfl ?_
  obtain ⟨hi, h⟩ := h
  refine j_iaload C (sh_RO_0 hE g_h0) hi d_RO_exchange_14 ?_
  refine j_callVv (As := [.int v1, .int (I (jr h0 0) v2.toNatClampNeg)]) C jcl_RO cw_RO_22 w_289 w_290 g_h0 rfl rfl (by decide) (by decide) (Nat.le_of_ble_eq_true rfl) d_RO_exchange_15 (s_RO_set C.ok hE g_h0 h) (fun I_3 h => ?_)
  refine j_aload_n C d_RO_exchange_18 rfl 1 rfl ?_
  refine j_iload_n C d_RO_exchange_19 rfl 3 rfl ?_
  refine j_iload_n C d_RO_exchange_20 rfl 0 rfl ?_
  refine j_callVv (As := [.int v2, .int v3_1]) C jcl_RO cw_RO_22 w_289 w_290 g_h0 rfl rfl (by decide) (by decide) (Nat.le_of_ble_eq_true rfl) d_RO_exchange_21 (s_RO_set C.ok hE g_h0 h) (fun I_5 h => ?_)
  exact j_vret C hr d_RO_exchange_24 h
theorem d_RO_turn_0 : decode prog_9_method_5_code 0 = .ok (.iconst 0, 1) := by decide +kernel
theorem d_RO_turn_1 : decode prog_9_method_5_code 1 = .ok (.istore_n 1, 1) := by decide +kernel
theorem d_RO_turn_2 : decode prog_9_method_5_code 2 = .ok (.iload_n 1, 1) := by decide +kernel
theorem d_RO_turn_3 : decode prog_9_method_5_code 3 = .ok (.aload_n 0, 1) := by decide +kernel
theorem d_RO_turn_4 : decode prog_9_method_5_code 4 = .ok (.getfield 18, 3) := by decide +kernel
theorem d_RO_turn_7 : decode prog_9_method_5_code 7 = .ok (.iconst 2, 1) := by decide +kernel
theorem d_RO_turn_8 : decode prog_9_method_5_code 8 = .ok (.idiv, 1) := by decide +kernel
theorem d_RO_turn_9 : decode prog_9_method_5_code 9 = .ok (.if_icmp .ge 22, 3) := by decide +kernel
theorem d_RO_turn_12 : decode prog_9_method_5_code 12 = .ok (.aload_n 0, 1) := by decide +kernel
theorem d_RO_turn_13 : decode prog_9_method_5_code 13 = .ok (.iload_n 1, 1) := by decide +kernel
theorem d_RO_turn_14 : decode prog_9_method_5_code 14 = .ok (.aload_n 0, 1) := by decide +kernel
theorem d_RO_turn_15 : decode prog_9_method_5_code 15 = .ok (.getfield 18, 3) := by decide +kernel
theorem d_RO_turn_18 : decode prog_9_method_5_code 18 = .ok (.iconst 1, 1) := by decide +kernel
theorem d_RO_turn_19 : decode prog_9_method_5_code 19 = .ok (.isub, 1) := by decide +kernel
theorem d_RO_turn_20 : decode prog_9_method_5_code 20 = .ok (.iload_n 1, 1) := by decide +kernel
theorem d_RO_turn_21 : decode prog_9_method_5_code 21 = .ok (.isub, 1) := by decide +kernel
theorem d_RO_turn_22 : decode prog_9_method_5_code 22 = .ok (.invokevirtual 26, 3) := by decide +kernel
theorem d_RO_turn_25 : decode prog_9_method_5_code 25 = .ok (.iinc 1 1, 3) := by decide +kernel
theorem d_RO_turn_28 : decode prog_9_method_5_code 28 = .ok (.goto (-26), 3) := by decide +kernel
theorem d_RO_turn_31 : decode prog_9_method_5_code 31 = .ok (.return_, 1) := by decide +kernel
def RO_turn_2b (h0 : Nat) (v1 : Int32) (I : jM) (K : jM → Prop) (X2 : Int32 × jM → Prop) : Prop :=
  ((((I h0 2) / (2 : Int32)) ≤ v1 → K I) ∧ (¬ ((I h0 2) / (2 : Int32)) ≤ v1 → RO_exchange h0 v1 (((I h0 2) - (1 : Int32)) - v1) I (fun I_2 => X2 ((v1 + 1), I_2))))
def RO_turn_2 (h0 : Nat) (v1 : Int32) (I : jM) (K : jM → Prop) : Prop :=
  lp (fun (X2 : Int32 × jM → Prop) (s : Int32 × jM) => RO_turn_2b h0 s.1 s.2 K X2) (v1, I)
set_option maxRecDepth 100000 in
set_option maxHeartbeats 4000000 in
theorem kb_RO_turn_2 {Z : jZ} {E : jE} (C : jC Z E prog_9_method_5_code 2 "OutOrder$Row" 2 45) (hr : (jZh Z).sig.returnType = none) (hE : E.2.2.2 = jLX)  (h0 : Nat) (v1 : Int32) (I : jM) (g_h0 : jOB E 6 h0) {K : jM → Prop} {X2 : Int32 × jM → Prop} (hX2 : ∀ s : Int32 × jM, X2 s → jJ Z E 2 (jQv Z E K) 2 [(0, .ref (E.2.2.1 h0)), (1, .int s.1)] [] s.2) (h : RO_turn_2b h0 v1 I K X2) : jJ Z E 2 (jQv Z E K) 2 [(0, .ref (E.2.2.1 h0)), (1, .int v1)] [] I := by
  unfold RO_turn_2b at h
  refine j_iload_n C d_RO_turn_2 rfl 1 rfl ?_
  refine j_aload_n C d_RO_turn_3 rfl 0 rfl ?_
  refine fg_RO_18 C g_h0 d_RO_turn_4 ?_
  refine j_iconst C d_RO_turn_7 ic_2 ?_
  refine j_idiv C d_RO_turn_8 (by decide) ?_
  refine j_icmp_ge C d_RO_turn_9 (tgt := 31) (by decide) (fun c9 => ?_) (fun c9 => ?_)
  · have h := h.1 c9
    exact j_vret C hr d_RO_turn_31 h
  · have h := h.2 c9
    refine j_aload_n C d_RO_turn_12 rfl 0 rfl ?_
    refine j_iload_n C d_RO_turn_13 rfl 1 rfl ?_
    refine j_aload_n C d_RO_turn_14 rfl 0 rfl ?_
    refine fg_RO_18 C g_h0 d_RO_turn_15 ?_
    refine j_iconst C d_RO_turn_18 ic_1 ?_
    refine j_isub C d_RO_turn_19 ?_
    refine j_iload_n C d_RO_turn_20 rfl 1 rfl ?_
    refine j_isub C d_RO_turn_21 ?_
    refine j_callVv (As := [.int v1, .int (((I h0 2) - (1 : Int32)) - v1)]) C jcl_RO cw_RO_26 w_401 w_402 g_h0 rfl rfl (by decide) (by decide) (Nat.le_of_ble_eq_true rfl) d_RO_turn_22 (s_RO_exchange C.ok hE g_h0 h) (fun I_2 h => ?_)
    refine j_iinc C d_RO_turn_25 1 rfl (v := (v1 + 1)) rfl (by decide) (lv' := [(1, .int (v1 + 1)), (0, .ref (E.2.2.1 h0))]) rfl ?_
    refine j_goto C d_RO_turn_28 (tgt := 2) (by decide) ?_
    refine j_lv [1, 0] rfl ?_
    exact hX2 ((v1 + 1), I_2) h
theorem k_RO_turn_2 {Z : jZ} {E : jE} (C : jC Z E prog_9_method_5_code 2 "OutOrder$Row" 2 45) (hr : (jZh Z).sig.returnType = none) (hE : E.2.2.2 = jLX)  (h0 : Nat) (v1 : Int32) (I : jM) (g_h0 : jOB E 6 h0) {K : jM → Prop} (h : RO_turn_2 h0 v1 I K) : jJ Z E 2 (jQv Z E K) 2 [(0, .ref (E.2.2.1 h0)), (1, .int v1)] [] I := by
  unfold RO_turn_2 at h
  exact h (fun s => jJ Z E 2 (jQv Z E K) 2 [(0, .ref (E.2.2.1 h0)), (1, .int s.1)] [] s.2) (fun s hs => kb_RO_turn_2 C hr hE h0 s.1 s.2 g_h0 (fun s2 h2 => h2) hs)
/-- OutOrder$Row.turn()V -/
def RO_turn (h0 : Nat) (I : jM) (K : jM → Prop) : Prop :=
  RO_turn_2 h0 (0 : Int32) I K
set_option maxRecDepth 100000 in
set_option maxHeartbeats 4000000 in
theorem s_RO_turn {l : Launch} {E : jE} (ok : jOK E) (hE : E.2.2.2 = jLX) {h0 : Nat} (g_h0 : jOB E 6 h0) {I : jM} {K : jM → Prop} (h : RO_turn h0 I K) : jSv l E ⟨"OutOrder$Row", "turn", "()V"⟩ prog_9_method_5_code 2 none 2 45 [.ref (E.2.2.1 h0)] I K := by
  refine jS_ofF (own := "OutOrder$Row") (by decide +kernel) rfl ok (Nat.le_of_ble_eq_true rfl) (fun Z _ C hr => ?_)
  show jJ Z E 2 (jQv Z E K) 0 [(0, .ref (E.2.2.1 h0))] [] I
  unfold RO_turn at h
  refine j_iconst C d_RO_turn_0 ic_0 ?_
  refine j_istore_n C d_RO_turn_1 rfl (by decide) (lv' := [(1, .int (0 : Int32)), (0, .ref (E.2.2.1 h0))]) rfl ?_
  refine j_lv [1, 0] rfl ?_
  exact k_RO_turn_2 C hr hE h0 (0 : Int32) I g_h0 h
