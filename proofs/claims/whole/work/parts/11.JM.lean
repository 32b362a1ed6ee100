theorem d_JM_floorMod_0 : decode prog_16_method_50_code 0 = .ok (.iload_n 0, 1) := by decide +kernel
theorem d_JM_floorMod_1 : decode prog_16_method_50_code 1 = .ok (.iload_n 1, 1) := by decide +kernel
theorem d_JM_floorMod_2 : decode prog_16_method_50_code 2 = .ok (.irem, 1) := by decide +kernel
theorem d_JM_floorMod_3 : decode prog_16_method_50_code 3 = .ok (.istore_n 2, 1) := by decide +kernel
theorem d_JM_floorMod_4 : decode prog_16_method_50_code 4 = .ok (.iload_n 0, 1) := by decide +kernel
theorem d_JM_floorMod_5 : decode prog_16_method_50_code 5 = .ok (.iload_n 1, 1) := by decide +kernel
theorem d_JM_floorMod_6 : decode prog_16_method_50_code 6 = .ok (.ixor, 1) := by decide +kernel
theorem d_JM_floorMod_7 : decode prog_16_method_50_code 7 = .ok (.ifCond .ge 11, 3) := by decide +kernel
theorem d_JM_floorMod_10 : decode prog_16_method_50_code 10 = .ok (.iload_n 2, 1) := by decide +kernel
theorem d_JM_floorMod_11 : decode prog_16_method_50_code 11 = .ok (.ifCond .eq 7, 3) := by decide +kernel
theorem d_JM_floorMod_14 : decode prog_16_method_50_code 14 = .ok (.iload_n 2, 1) := by decide +kernel
theorem d_JM_floorMod_15 : decode prog_16_method_50_code 15 = .ok (.iload_n 1, 1) := by decide +kernel
theorem d_JM_floorMod_16 : decode prog_16_method_50_code 16 = .ok (.iadd, 1) := by decide +kernel
theorem d_JM_floorMod_17 : decode prog_16_method_50_code 17 = .ok (.ireturn, 1) := by decide +kernel
theorem d_JM_floorMod_18 : decode prog_16_method_50_code 18 = .ok (.iload_n 2, 1) := by decide +kernel
theorem d_JM_floorMod_19 : decode prog_16_method_50_code 19 = .ok (.ireturn, 1) := by decide +kernel
/-- java/lang/Math.floorMod(II)I -/
def JM_floorMod (v0 : Int32) (v1 : Int32) (I : jM) (K : Int32 → Prop) : Prop :=
  (¬ v1 = 0 ∧ (∀ v2_1 : Int32, v2_1 = (v0 - v0 / v1 * v1) → ((0 ≤ (v0 ^^^ v1) → K v2_1) ∧ (¬ 0 ≤ (v0 ^^^ v1) → ((v2_1 = 0 → K v2_1) ∧ (¬ v2_1 = 0 → K (v2_1 + v1)))))))
set_option maxRecDepth 100000 in
set_option maxHeartbeats 4000000 in
theorem s_JM_floorMod {l : Launch} {E : jE} (ok : jOK E)  {v0 : Int32} {v1 : Int32} {I : jM} {K : Int32 → Prop} (h : JM_floorMod v0 v1 I K) : jSi l E ⟨"java/lang/Math", "floorMod", "(II)I"⟩ prog_16_method_50_code 3 (some .int) 0 0 [.int v0, .int v1] I (fun r I2 => I = I2 ∧ K r) := by
  refine jS_ofF (own := "java/lang/Math") (by decide +kernel) rfl ok (Nat.le_of_ble_eq_true rfl) (fun Z _ C hr => ?_)
  show jJ Z E 3 (jQi Z E (fun r I2 => I = I2 ∧ K r)) 0 [(0, .int v0), (1, .int v1)] [] I
  unfold JM_floorMod at h
  refine j_iload_n C d_JM_floorMod_0 rfl 0 rfl ?_
  refine j_iload_n C d_JM_floorMod_1 rfl 1 rfl ?_
  obtain ⟨hn, h⟩ := h
  refine j_irem C d_JM_floorMod_2 hn ?_
  refine j_topi (fun v2_1 ev2_1 => ?_)
  have h := h v2_1 ev2_1
  refine j_istore_n C d_JM_floorMod_3 rfl (by decide) (lv' := [(2, .int v2_1), (0, .int v0), (1, .int v1)]) rfl ?_
  refine j_iload_n C d_JM_floorMod_4 rfl 1 rfl ?_
  refine j_iload_n C d_JM_floorMod_5 rfl 2 rfl ?_
  refine j_ixor C d_JM_floorMod_6 ?_
  refine j_if_ge C d_JM_floorMod_7 (tgt := 18) (by decide) (fun c7 => ?_) (fun c7 => ?_)
  · have h := h.1 c7
    refine j_iload_n C d_JM_floorMod_18 rfl 0 rfl ?_
    exact j_iret C hr d_JM_floorMod_19 ⟨rfl, h⟩
  · have h := h.2 c7
    refine j_iload_n C d_JM_floorMod_10 rfl 0 rfl ?_
    refine j_if_eq C d_JM_floorMod_11 (tgt := 18) (by decide) (fun c11 => ?_) (fun c11 => ?_)
    · have h := h.1 c11
      refine j_iload_n C d_JM_floorMod_18 rfl 0 rfl ?_
      exact j_iret C hr d_JM_floorMod_19 ⟨rfl, h⟩
    · have h := h.2 c11
      refine j_iload_n C d_JM_floorMod_14 rfl 0 rfl ?_
      refine j_iload_n C d_JM_floorMod_15 rfl 2 rfl ?_
      refine j_iadd C d_JM_floorMod_16 ?_
      exact j_iret C hr d_JM_floorMod_17 ⟨rfl, h⟩
theorem d_JM_max_0 : decode prog_16_method_65_code 0 = .ok (.iload_n 0, 1) := by decide +kernel
theorem d_JM_max_1 : decode prog_16_method_65_code 1 = .ok (.iload_n 1, 1) := by decide +kernel
theorem d_JM_max_2 : decode prog_16_method_65_code 2 = .ok (.if_icmp .lt 7, 3) := by decide +kernel
theorem d_JM_max_5 : decode prog_16_method_65_code 5 = .ok (.iload_n 0, 1) := by decide +kernel
theorem d_JM_max_6 : decode prog_16_method_65_code 6 = .ok (.goto 4, 3) := by decide +kernel
theorem d_JM_max_9 : decode prog_16_method_65_code 9 = .ok (.iload_n 1, 1) := by decide +kernel
theorem d_JM_max_10 : decode prog_16_method_65_code 10 = .ok (.ireturn, 1) := by decide +kernel
/-- java/lang/Math.max(II)I -/
def JM_max (v0 : Int32) (v1 : Int32) (I : jM) (K : Int32 → Prop) : Prop :=
  ((v0 < v1 → K v1) ∧ (¬ v0 < v1 → K v0))
set_option maxRecDepth 100000 in
set_option maxHeartbeats 4000000 in
theorem s_JM_max {l : Launch} {E : jE} (ok : jOK E)  {v0 : Int32} {v1 : Int32} {I : jM} {K : Int32 → Prop} (h : JM_max v0 v1 I K) : jSi l E ⟨"java/lang/Math", "max", "(II)I"⟩ prog_16_method_65_code 2 (some .int) 0 0 [.int v0, .int v1] I (fun r I2 => I = I2 ∧ K r) := by
  refine jS_ofF (own := "java/lang/Math") (by decide +kernel) rfl ok (Nat.le_of_ble_eq_true rfl) (fun Z _ C hr => ?_)
  show jJ Z E 2 (jQi Z E (fun r I2 => I = I2 ∧ K r)) 0 [(0, .int v0), (1, .int v1)] [] I
  unfold JM_max at h
  refine j_iload_n C d_JM_max_0 rfl 0 rfl ?_
  refine j_iload_n C d_JM_max_1 rfl 1 rfl ?_
  refine j_icmp_lt C d_JM_max_2 (tgt := 9) (by decide) (fun c2 => ?_) (fun c2 => ?_)
  · have h := h.1 c2
    refine j_iload_n C d_JM_max_9 rfl 1 rfl ?_
    exact j_iret C hr d_JM_max_10 ⟨rfl, h⟩
  · have h := h.2 c2
    refine j_iload_n C d_JM_max_5 rfl 0 rfl ?_
    refine j_goto C d_JM_max_6 (tgt := 10) (by decide) ?_
    exact j_iret C hr d_JM_max_10 ⟨rfl, h⟩
theorem d_JM_min_0 : decode prog_16_method_69_code 0 = .ok (.iload_n 0, 1) := by decide +kernel
theorem d_JM_min_1 : decode prog_16_method_69_code 1 = .ok (.iload_n 1, 1) := by decide +kernel
theorem d_JM_min_2 : decode prog_16_method_69_code 2 = .ok (.if_icmp .gt 7, 3) := by decide +kernel
theorem d_JM_min_5 : decode prog_16_method_69_code 5 = .ok (.iload_n 0, 1) := by decide +kernel
theorem d_JM_min_6 : decode prog_16_method_69_code 6 = .ok (.goto 4, 3) := by decide +kernel
theorem d_JM_min_9 : decode prog_16_method_69_code 9 = .ok (.iload_n 1, 1) := by decide +kernel
theorem d_JM_min_10 : decode prog_16_method_69_code 10 = .ok (.ireturn, 1) := by decide +kernel
/-- java/lang/Math.min(II)I -/
def JM_min (v0 : Int32) (v1 : Int32) (I : jM) (K : Int32 → Prop) : Prop :=
  ((v1 < v0 → K v1) ∧ (¬ v1 < v0 → K v0))
set_option maxRecDepth 100000 in
set_option maxHeartbeats 4000000 in
theorem s_JM_min {l : Launch} {E : jE} (ok : jOK E)  {v0 : Int32} {v1 : Int32} {I : jM} {K : Int32 → Prop} (h : JM_min v0 v1 I K) : jSi l E ⟨"java/lang/Math", "min", "(II)I"⟩ prog_16_method_69_code 2 (some .int) 0 0 [.int v0, .int v1] I (fun r I2 => I = I2 ∧ K r) := by
  refine jS_ofF (own := "java/lang/Math") (by decide +kernel) rfl ok (Nat.le_of_ble_eq_true rfl) (fun Z _ C hr => ?_)
  show jJ Z E 2 (jQi Z E (fun r I2 => I = I2 ∧ K r)) 0 [(0, .int v0), (1, .int v1)] [] I
  unfold JM_min at h
  refine j_iload_n C d_JM_min_0 rfl 0 rfl ?_
  refine j_iload_n C d_JM_min_1 rfl 1 rfl ?_
  refine j_icmp_gt C d_JM_min_2 (tgt := 9) (by decide) (fun c2 => ?_) (fun c2 => ?_)
  · have h := h.1 c2
    refine j_iload_n C d_JM_min_9 rfl 1 rfl ?_
    exact j_iret C hr d_JM_min_10 ⟨rfl, h⟩
  · have h := h.2 c2
    refine j_iload_n C d_JM_min_5 rfl 0 rfl ?_
    refine j_goto C d_JM_min_6 (tgt := 10) (by decide) ?_
    exact j_iret C hr d_JM_min_10 ⟨rfl, h⟩
