/-- call 0: table -/
def lawN_0 (Nx : jM → jM → Prop) (IX IM : jM) (a1 a2 a3 : Int32) : Prop :=
  OO_table 0 a1 a2 IX (fun rx IX3 => MD_table 100 a1 a2 IM (fun rm IM3 => rx = rm ∧ Nx IX3 IM3))
/-- call 1: put -/
def lawN_1 (Nx : jM → jM → Prop) (IX IM : jM) (a1 a2 a3 : Int32) : Prop :=
  OO_put 0 a1 a2 a3 IX (fun rx IX3 => MD_put 100 a1 a2 a3 IM (fun rm IM3 => rx = rm ∧ Nx IX3 IM3))
/-- call 2: number -/
def lawN_2 (Nx : jM → jM → Prop) (IX IM : jM) (a1 a2 a3 : Int32) : Prop :=
  OO_number 0 a1 a2 IX (fun rx IX3 => MD_number 100 a1 a2 IM (fun rm IM3 => rx = rm ∧ Nx IX3 IM3))
/-- call 3: hold -/
def lawN_3 (Nx : jM → jM → Prop) (IX IM : jM) (a1 a2 a3 : Int32) : Prop :=
  (a2 = 0 → OO_hold 0 a1 (0 : Int32) IX (fun rx IX3 => MD_hold 100 a1 (0 : Int32) IM (fun rm IM3 => rx = rm ∧ Nx IX3 IM3))) ∧ (¬ a2 = 0 → OO_hold 0 a1 (1 : Int32) IX (fun rx IX3 => MD_hold 100 a1 (1 : Int32) IM (fun rm IM3 => rx = rm ∧ Nx IX3 IM3)))
/-- call 4: order -/
def lawN_4 (Nx : jM → jM → Prop) (IX IM : jM) (a1 a2 a3 : Int32) : Prop :=
  OO_order 0 a1 IX (fun rx IX3 => MD_order 100 a1 IM (fun rm IM3 => rx = rm ∧ Nx IX3 IM3))
/-- call 5: swap -/
def lawN_5 (Nx : jM → jM → Prop) (IX IM : jM) (a1 a2 a3 : Int32) : Prop :=
  OO_swap 0 a1 a2 IX (fun rx IX3 => MD_swap 100 a1 a2 IM (fun rm IM3 => rx = rm ∧ Nx IX3 IM3))
/-- call 6: at -/
def lawN_6 (Nx : jM → jM → Prop) (IX IM : jM) (a1 a2 a3 : Int32) : Prop :=
  OO_at 0 a1 IX (fun rx IX3 => MD_at 100 a1 IM (fun rm IM3 => rx = rm ∧ Nx IX3 IM3))
/-- call 7: fills -/
def lawN_7 (Nx : jM → jM → Prop) (IX IM : jM) (a1 a2 a3 : Int32) : Prop :=
  OO_fills 0 IX (fun rx IX3 => MD_fills 100 IM (fun rm IM3 => rx = rm ∧ Nx IX3 IM3))
/-- call 8: fill -/
def lawN_8 (Nx : jM → jM → Prop) (IX IM : jM) (a1 a2 a3 : Int32) : Prop :=
  OO_fill 0 a1 IX (fun rx IX3 => MD_fill 100 a1 IM (fun rm IM3 => rx = rm ∧ Nx IX3 IM3))
/-- call 9: column -/
def lawN_9 (Nx : jM → jM → Prop) (IX IM : jM) (a1 a2 a3 : Int32) : Prop :=
  OO_column 0 a1 a2 IX (fun rx IX3 => MD_column 100 a1 a2 IM (fun rm IM3 => rx = rm ∧ Nx IX3 IM3))
/-- call 10: width -/
def lawN_10 (Nx : jM → jM → Prop) (IX IM : jM) (a1 a2 a3 : Int32) : Prop :=
  OO_width 0 IX (fun rx IX3 => MD_width 100 IM (fun rm IM3 => rx = rm ∧ Nx IX3 IM3))
/-- call 11: group -/
def lawN_11 (Nx : jM → jM → Prop) (IX IM : jM) (a1 a2 a3 : Int32) : Prop :=
  OO_group 0 a1 IX (fun rx IX3 => MD_group 100 a1 IM (fun rm IM3 => rx = rm ∧ Nx IX3 IM3))
/-- call 12: isClean -/
def lawN_12 (Nx : jM → jM → Prop) (IX IM : jM) (a1 a2 a3 : Int32) : Prop :=
  OO_isClean 0 IX (fun rx => MD_isClean 100 IM (fun rm IM3 => rx = rm ∧ Nx IX IM3))
/-- call 13: ring -/
def lawN_13 (Nx : jM → jM → Prop) (IX IM : jM) (a1 a2 a3 : Int32) : Prop :=
  OO_ring 0 IX (fun rx => MD_ring 100 IM (fun rm IM3 => rx = rm ∧ Nx IX IM3))
/-- call 14: least -/
def lawN_14 (Nx : jM → jM → Prop) (IX IM : jM) (a1 a2 a3 : Int32) : Prop :=
  OO_least 0 a1 IX (fun rx IX3 => MD_least 100 a1 IM (fun rm IM3 => rx = rm ∧ Nx IX3 IM3))
/-- call 15: begin -/
def lawN_15 (Nx : jM → jM → Prop) (IX IM : jM) (a1 a2 a3 : Int32) : Prop :=
  OO_begin 0 IX (fun rx IX3 => MD_begin 100 IM (fun rm IM3 => rx = rm ∧ Nx IX3 IM3))
/-- call 16: out -/
def lawN_16 (Nx : jM → jM → Prop) (IX IM : jM) (a1 a2 a3 : Int32) : Prop :=
  OO_out 0 a1 IX (fun rx IX3 => MD_out 100 a1 IM (fun rm IM3 => rx = rm ∧ Nx IX3 IM3))
/-- call 17: going -/
def lawN_17 (Nx : jM → jM → Prop) (IX IM : jM) (a1 a2 a3 : Int32) : Prop :=
  OO_going 0 a1 a2 IX (fun rx IX3 => MD_going 100 a1 a2 IM (fun rm IM3 => rx = rm ∧ Nx IX3 IM3))
/-- call 18: back -/
def lawN_18 (Nx : jM → jM → Prop) (IX IM : jM) (a1 a2 a3 : Int32) : Prop :=
  OO_back 0 IX (fun rx IX3 => MD_back 100 IM (fun rm IM3 => rx = rm ∧ Nx IX3 IM3))
/-- call 19: work -/
def lawN_19 (Nx : jM → jM → Prop) (IX IM : jM) (a1 a2 a3 : Int32) : Prop :=
  OO_work 0 IX (fun rx IX3 => MD_work 100 IM (fun rm IM3 => rx = rm ∧ Nx IX3 IM3))
/-- call 20: pivot -/
def lawN_20 (Nx : jM → jM → Prop) (IX IM : jM) (a1 a2 a3 : Int32) : Prop :=
  OO_pivot 0 a1 IX (fun rx IX3 => MD_pivot 100 a1 IM (fun rm IM3 => rx = rm ∧ Nx IX3 IM3))
/-- call 21: one -/
def lawN_21 (Nx : jM → jM → Prop) (IX IM : jM) (a1 a2 a3 : Int32) : Prop :=
  OO_one 0 a1 a2 IX (fun rx IX3 => MD_one 100 a1 a2 IM (fun rm IM3 => rx = rm ∧ Nx IX3 IM3))
/-- call 22: worth -/
def lawN_22 (Nx : jM → jM → Prop) (IX IM : jM) (a1 a2 a3 : Int32) : Prop :=
  OO_worth 0 IX (fun rx IX3 => MD_worth 100 IM (fun rm IM3 => rx = rm ∧ Nx IX3 IM3))
/-- call 23: side -/
def lawN_23 (Nx : jM → jM → Prop) (IX IM : jM) (a1 a2 a3 : Int32) : Prop :=
  OO_side 0 a1 a2 IX (fun rx IX3 => MD_side 100 a1 a2 IM (fun rm IM3 => rx = rm ∧ Nx IX3 IM3))
/-- call 24: solve -/
def lawN_24 (Nx : jM → jM → Prop) (IX IM : jM) (a1 a2 a3 : Int32) : Prop :=
  OO_solve 0 a1 IX (fun rx IX3 => MD_solve 100 a1 IM (fun rm IM3 => rx = rm ∧ Nx IX3 IM3))
/-- call 25: inside -/
def lawN_25 (Nx : jM → jM → Prop) (IX IM : jM) (a1 a2 a3 : Int32) : Prop :=
  OO_inside 0 a1 a2 IX (fun rx IX3 => MD_inside 100 a1 a2 IM (fun rm IM3 => rx = rm ∧ Nx IX3 IM3))
/-- call 26: plan -/
def lawN_26 (Nx : jM → jM → Prop) (IX IM : jM) (a1 a2 a3 : Int32) : Prop :=
  OO_plan 0 a1 IX (fun rx IX3 => MD_plan 100 a1 IM (fun rm IM3 => rx = rm ∧ Nx IX3 IM3))
/-- call 27: round -/
def lawN_27 (Nx : jM → jM → Prop) (IX IM : jM) (a1 a2 a3 : Int32) : Prop :=
  OO_round 0 a1 a2 IX (fun rx IX3 => MD_round 100 a1 a2 IM (fun rm IM3 => rx = rm ∧ Nx IX3 IM3))
/-- call 28: status -/
def lawN_28 (Nx : jM → jM → Prop) (IX IM : jM) (a1 a2 a3 : Int32) : Prop :=
  OO_status 0 a1 IX (fun rx => MD_status 100 a1 IM (fun rm IM3 => rx = rm ∧ Nx IX IM3))
set_option maxRecDepth 100000 in
set_option maxHeartbeats 4000000 in
theorem lawcase_0 {Z : jZ} {Y : lY} {b L : Nat} {xs : Nat → Int32} {kc ks : Nat} {Q : State → Prop} {Nx : jM → jM → Prop} (C : lC Z Y b L xs) (hcs : kc ≤ 600000 ∧ ks ≤ 7302249) {x3 : Int32} (q1 : vp_in (x3 + (1 : Int32)) L) (q2 : vp_in (x3 + (2 : Int32)) L) (q3 : vp_in (x3 + (3 : Int32)) L) {IX IM : jM} (h : lawN_0 Nx IX IM (xs (x3 + (1 : Int32)).toNatClampNeg) (xs (x3 + (2 : Int32)).toNatClampNeg) (xs (x3 + (3 : Int32)).toNatClampNeg)) (hN : ∀ IX2 IM2, Nx IX2 IM2 → lJ Z Y kc ks Q 887 [(0, .ref b), (1, .ref (Y.2.2 0)), (2, .ref (Y.2.2 100)), (3, .int x3)] [] IX2 IM2) : lJ Z Y kc ks Q 164 [(0, .ref b), (1, .ref (Y.2.2 0)), (2, .ref (Y.2.2 100)), (3, .int x3)] [] IX IM := by
  have gX : jOB (lX Y) 10 0 := ⟨by show 0 ∈ jLX; decide +kernel, by decide +kernel⟩
  have gM : jOB (lM Y) 11 100 := ⟨by show 100 ∈ jLM; decide +kernel, by decide +kernel⟩
  unfold lawN_0 at h
  refine l_aload_n C d_LW_164 rfl 1 rfl ?_
  refine l_aload_n C d_LW_165 rfl 0 rfl ?_
  refine l_iload_n C d_LW_166 rfl 3 rfl ?_
  refine l_iconst C d_LW_167 ic_1 ?_
  refine l_iadd C d_LW_168 ?_
  refine l_sld C q1 d_LW_169 ?_
  refine l_aload_n C d_LW_170 rfl 0 rfl ?_
  refine l_iload_n C d_LW_171 rfl 3 rfl ?_
  refine l_iconst C d_LW_172 ic_2 ?_
  refine l_iadd C d_LW_173 ?_
  refine l_sld C q2 d_LW_174 ?_
  refine l_callX (As := [.int (xs (x3 + (1 : Int32)).toNatClampNeg), .int (xs (x3 + (2 : Int32)).toNatClampNeg)]) C jcl_OO cw_LW_13 w_347 w_348 gX rfl rfl (by decide) (by decide) (Nat.le_of_ble_eq_true rfl) d_LW_175 hcs (s_OO_table C.okX rfl gX h) (fun rx IX3 h => ?_)
  refine l_aload_n C d_LW_178 rfl 2 rfl ?_
  refine l_aload_n C d_LW_179 rfl 0 rfl ?_
  refine l_iload_n C d_LW_180 rfl 3 rfl ?_
  refine l_iconst C d_LW_181 ic_1 ?_
  refine l_iadd C d_LW_182 ?_
  refine l_sld C q1 d_LW_183 ?_
  refine l_aload_n C d_LW_184 rfl 0 rfl ?_
  refine l_iload_n C d_LW_185 rfl 3 rfl ?_
  refine l_iconst C d_LW_186 ic_2 ?_
  refine l_iadd C d_LW_187 ?_
  refine l_sld C q2 d_LW_188 ?_
  refine l_callM (As := [.int (xs (x3 + (1 : Int32)).toNatClampNeg), .int (xs (x3 + (2 : Int32)).toNatClampNeg)]) C jcl_MD cw_LW_17 w_804 w_805 gM rfl rfl (by decide) (by decide) (Nat.le_of_ble_eq_true rfl) d_LW_189 hcs (s_MD_table C.okM rfl gM h) (fun rm IM3 h => ?_)
  refine l_icmp_eq C d_LW_192 (tgt := 887) (by decide) h.1 ?_
  exact hN _ _ h.2
set_option maxRecDepth 100000 in
set_option maxHeartbeats 4000000 in
theorem lawcase_1 {Z : jZ} {Y : lY} {b L : Nat} {xs : Nat → Int32} {kc ks : Nat} {Q : State → Prop} {Nx : jM → jM → Prop} (C : lC Z Y b L xs) (hcs : kc ≤ 600000 ∧ ks ≤ 7302249) {x3 : Int32} (q1 : vp_in (x3 + (1 : Int32)) L) (q2 : vp_in (x3 + (2 : Int32)) L) (q3 : vp_in (x3 + (3 : Int32)) L) {IX IM : jM} (h : lawN_1 Nx IX IM (xs (x3 + (1 : Int32)).toNatClampNeg) (xs (x3 + (2 : Int32)).toNatClampNeg) (xs (x3 + (3 : Int32)).toNatClampNeg)) (hN : ∀ IX2 IM2, Nx IX2 IM2 → lJ Z Y kc ks Q 887 [(0, .ref b), (1, .ref (Y.2.2 0)), (2, .ref (Y.2.2 100)), (3, .int x3)] [] IX2 IM2) : lJ Z Y kc ks Q 197 [(0, .ref b), (1, .ref (Y.2.2 0)), (2, .ref (Y.2.2 100)), (3, .int x3)] [] IX IM := by
  have gX : jOB (lX Y) 10 0 := ⟨by show 0 ∈ jLX; decide +kernel, by decide +kernel⟩
  have gM : jOB (lM Y) 11 100 := ⟨by show 100 ∈ jLM; decide +kernel, by decide +kernel⟩
  unfold lawN_1 at h
  refine l_aload_n C d_LW_197 rfl 1 rfl ?_
  refine l_aload_n C d_LW_198 rfl 0 rfl ?_
  refine l_iload_n C d_LW_199 rfl 3 rfl ?_
  refine l_iconst C d_LW_200 ic_1 ?_
  refine l_iadd C d_LW_201 ?_
  refine l_sld C q1 d_LW_202 ?_
  refine l_aload_n C d_LW_203 rfl 0 rfl ?_
  refine l_iload_n C d_LW_204 rfl 3 rfl ?_
  refine l_iconst C d_LW_205 ic_2 ?_
  refine l_iadd C d_LW_206 ?_
  refine l_sld C q2 d_LW_207 ?_
  refine l_aload_n C d_LW_208 rfl 0 rfl ?_
  refine l_iload_n C d_LW_209 rfl 3 rfl ?_
  refine l_iconst C d_LW_210 ic_3 ?_
  refine l_iadd C d_LW_211 ?_
  refine l_sld C q3 d_LW_212 ?_
  refine l_callX (As := [.int (xs (x3 + (1 : Int32)).toNatClampNeg), .int (xs (x3 + (2 : Int32)).toNatClampNeg), .int (xs (x3 + (3 : Int32)).toNatClampNeg)]) C jcl_OO cw_LW_18 w_358 w_359 gX rfl rfl (by decide) (by decide) (Nat.le_of_ble_eq_true rfl) d_LW_213 hcs (s_OO_put C.okX rfl gX h) (fun rx IX3 h => ?_)
  refine l_aload_n C d_LW_216 rfl 2 rfl ?_
  refine l_aload_n C d_LW_217 rfl 0 rfl ?_
  refine l_iload_n C d_LW_218 rfl 3 rfl ?_
  refine l_iconst C d_LW_219 ic_1 ?_
  refine l_iadd C d_LW_220 ?_
  refine l_sld C q1 d_LW_221 ?_
  refine l_aload_n C d_LW_222 rfl 0 rfl ?_
  refine l_iload_n C d_LW_223 rfl 3 rfl ?_
  refine l_iconst C d_LW_224 ic_2 ?_
  refine l_iadd C d_LW_225 ?_
  refine l_sld C q2 d_LW_226 ?_
  refine l_aload_n C d_LW_227 rfl 0 rfl ?_
  refine l_iload_n C d_LW_228 rfl 3 rfl ?_
  refine l_iconst C d_LW_229 ic_3 ?_
  refine l_iadd C d_LW_230 ?_
  refine l_sld C q3 d_LW_231 ?_
  refine l_callM (As := [.int (xs (x3 + (1 : Int32)).toNatClampNeg), .int (xs (x3 + (2 : Int32)).toNatClampNeg), .int (xs (x3 + (3 : Int32)).toNatClampNeg)]) C jcl_MD cw_LW_22 w_824 w_825 gM rfl rfl (by decide) (by decide) (Nat.le_of_ble_eq_true rfl) d_LW_232 hcs (s_MD_put C.okM rfl gM h) (fun rm IM3 h => ?_)
  refine l_icmp_eq C d_LW_235 (tgt := 887) (by decide) h.1 ?_
  exact hN _ _ h.2
set_option maxRecDepth 100000 in
set_option maxHeartbeats 4000000 in
theorem lawcase_2 {Z : jZ} {Y : lY} {b L : Nat} {xs : Nat → Int32} {kc ks : Nat} {Q : State → Prop} {Nx : jM → jM → Prop} (C : lC Z Y b L xs) (hcs : kc ≤ 600000 ∧ ks ≤ 7302249) {x3 : Int32} (q1 : vp_in (x3 + (1 : Int32)) L) (q2 : vp_in (x3 + (2 : Int32)) L) (q3 : vp_in (x3 + (3 : Int32)) L) {IX IM : jM} (h : lawN_2 Nx IX IM (xs (x3 + (1 : Int32)).toNatClampNeg) (xs (x3 + (2 : Int32)).toNatClampNeg) (xs (x3 + (3 : Int32)).toNatClampNeg)) (hN : ∀ IX2 IM2, Nx IX2 IM2 → lJ Z Y kc ks Q 887 [(0, .ref b), (1, .ref (Y.2.2 0)), (2, .ref (Y.2.2 100)), (3, .int x3)] [] IX2 IM2) : lJ Z Y kc ks Q 240 [(0, .ref b), (1, .ref (Y.2.2 0)), (2, .ref (Y.2.2 100)), (3, .int x3)] [] IX IM := by
  have gX : jOB (lX Y) 10 0 := ⟨by show 0 ∈ jLX; decide +kernel, by decide +kernel⟩
  have gM : jOB (lM Y) 11 100 := ⟨by show 100 ∈ jLM; decide +kernel, by decide +kernel⟩
  unfold lawN_2 at h
  refine l_aload_n C d_LW_240 rfl 1 rfl ?_
  refine l_aload_n C d_LW_241 rfl 0 rfl ?_
  refine l_iload_n C d_LW_242 rfl 3 rfl ?_
  refine l_iconst C d_LW_243 ic_1 ?_
  refine l_iadd C d_LW_244 ?_
  refine l_sld C q1 d_LW_245 ?_
  refine l_aload_n C d_LW_246 rfl 0 rfl ?_
  refine l_iload_n C d_LW_247 rfl 3 rfl ?_
  refine l_iconst C d_LW_248 ic_2 ?_
  refine l_iadd C d_LW_249 ?_
  refine l_sld C q2 d_LW_250 ?_
  refine l_callX (As := [.int (xs (x3 + (1 : Int32)).toNatClampNeg), .int (xs (x3 + (2 : Int32)).toNatClampNeg)]) C jcl_OO cw_LW_23 w_377 w_378 gX rfl rfl (by decide) (by decide) (Nat.le_of_ble_eq_true rfl) d_LW_251 hcs (s_OO_number C.okX rfl gX h) (fun rx IX3 h => ?_)
  refine l_aload_n C d_LW_254 rfl 2 rfl ?_
  refine l_aload_n C d_LW_255 rfl 0 rfl ?_
  refine l_iload_n C d_LW_256 rfl 3 rfl ?_
  refine l_iconst C d_LW_257 ic_1 ?_
  refine l_iadd C d_LW_258 ?_
  refine l_sld C q1 d_LW_259 ?_
  refine l_aload_n C d_LW_260 rfl 0 rfl ?_
  refine l_iload_n C d_LW_261 rfl 3 rfl ?_
  refine l_iconst C d_LW_262 ic_2 ?_
  refine l_iadd C d_LW_263 ?_
  refine l_sld C q2 d_LW_264 ?_
  refine l_callM (As := [.int (xs (x3 + (1 : Int32)).toNatClampNeg), .int (xs (x3 + (2 : Int32)).toNatClampNeg)]) C jcl_MD cw_LW_26 w_839 w_840 gM rfl rfl (by decide) (by decide) (Nat.le_of_ble_eq_true rfl) d_LW_265 hcs (s_MD_number C.okM rfl gM h) (fun rm IM3 h => ?_)
  refine l_icmp_eq C d_LW_268 (tgt := 887) (by decide) h.1 ?_
  exact hN _ _ h.2
set_option maxRecDepth 100000 in
set_option maxHeartbeats 4000000 in
theorem lawcase_3 {Z : jZ} {Y : lY} {b L : Nat} {xs : Nat → Int32} {kc ks : Nat} {Q : State → Prop} {Nx : jM → jM → Prop} (C : lC Z Y b L xs) (hcs : kc ≤ 600000 ∧ ks ≤ 7302249) {x3 : Int32} (q1 : vp_in (x3 + (1 : Int32)) L) (q2 : vp_in (x3 + (2 : Int32)) L) (q3 : vp_in (x3 + (3 : Int32)) L) {IX IM : jM} (h : lawN_3 Nx IX IM (xs (x3 + (1 : Int32)).toNatClampNeg) (xs (x3 + (2 : Int32)).toNatClampNeg) (xs (x3 + (3 : Int32)).toNatClampNeg)) (hN : ∀ IX2 IM2, Nx IX2 IM2 → lJ Z Y kc ks Q 887 [(0, .ref b), (1, .ref (Y.2.2 0)), (2, .ref (Y.2.2 100)), (3, .int x3)] [] IX2 IM2) : lJ Z Y kc ks Q 273 [(0, .ref b), (1, .ref (Y.2.2 0)), (2, .ref (Y.2.2 100)), (3, .int x3)] [] IX IM := by
  have gX : jOB (lX Y) 10 0 := ⟨by show 0 ∈ jLX; decide +kernel, by decide +kernel⟩
  have gM : jOB (lM Y) 11 100 := ⟨by show 100 ∈ jLM; decide +kernel, by decide +kernel⟩
  unfold lawN_3 at h
  refine l_aload_n C d_LW_273 rfl 1 rfl ?_
  refine l_aload_n C d_LW_274 rfl 0 rfl ?_
  refine l_iload_n C d_LW_275 rfl 3 rfl ?_
  refine l_iconst C d_LW_276 ic_1 ?_
  refine l_iadd C d_LW_277 ?_
  refine l_sld C q1 d_LW_278 ?_
  refine l_aload_n C d_LW_279 rfl 0 rfl ?_
  refine l_iload_n C d_LW_280 rfl 3 rfl ?_
  refine l_iconst C d_LW_281 ic_2 ?_
  refine l_iadd C d_LW_282 ?_
  refine l_sld C q2 d_LW_283 ?_
  refine l_if_eq C d_LW_284 (tgt := 291) (by decide) (fun c284 => ?_) (fun c284 => ?_)
  · have h := h.1 c284
    refine l_iconst C d_LW_291 ic_0 ?_
    refine l_callX (As := [.int (xs (x3 + (1 : Int32)).toNatClampNeg), .int (0 : Int32)]) C jcl_OO cw_LW_27 w_381 w_382 gX rfl rfl (by decide) (by decide) (Nat.le_of_ble_eq_true rfl) d_LW_292 hcs (s_OO_hold C.okX rfl gX h) (fun rx IX3 h => ?_)
    refine l_aload_n C d_LW_295 rfl 2 rfl ?_
    refine l_aload_n C d_LW_296 rfl 0 rfl ?_
    refine l_iload_n C d_LW_297 rfl 3 rfl ?_
    refine l_iconst C d_LW_298 ic_1 ?_
    refine l_iadd C d_LW_299 ?_
    refine l_sld C q1 d_LW_300 ?_
    refine l_aload_n C d_LW_301 rfl 0 rfl ?_
    refine l_iload_n C d_LW_302 rfl 3 rfl ?_
    refine l_iconst C d_LW_303 ic_2 ?_
    refine l_iadd C d_LW_304 ?_
    refine l_sld C q2 d_LW_305 ?_
    refine l_if_eq C d_LW_306 (tgt := 313) (by decide) (fun c306 => ?_) (fun c306 => ?_)
    · skip
      refine l_iconst C d_LW_313 ic_0 ?_
      refine l_callM (As := [.int (xs (x3 + (1 : Int32)).toNatClampNeg), .int (0 : Int32)]) C jcl_MD cw_LW_31 w_843 w_844 gM rfl rfl (by decide) (by decide) (Nat.le_of_ble_eq_true rfl) d_LW_314 hcs (s_MD_hold C.okM rfl gM h) (fun rm IM3 h => ?_)
      refine l_icmp_eq C d_LW_317 (tgt := 887) (by decide) h.1 ?_
      exact hN _ _ h.2
    · exact absurd c284 c306
  · have h := h.2 c284
    refine l_iconst C d_LW_287 ic_1 ?_
    refine l_goto C d_LW_288 (tgt := 292) (by decide) ?_
    refine l_callX (As := [.int (xs (x3 + (1 : Int32)).toNatClampNeg), .int (1 : Int32)]) C jcl_OO cw_LW_27 w_381 w_382 gX rfl rfl (by decide) (by decide) (Nat.le_of_ble_eq_true rfl) d_LW_292 hcs (s_OO_hold C.okX rfl gX h) (fun rx IX3 h => ?_)
    refine l_aload_n C d_LW_295 rfl 2 rfl ?_
    refine l_aload_n C d_LW_296 rfl 0 rfl ?_
    refine l_iload_n C d_LW_297 rfl 3 rfl ?_
    refine l_iconst C d_LW_298 ic_1 ?_
    refine l_iadd C d_LW_299 ?_
    refine l_sld C q1 d_LW_300 ?_
    refine l_aload_n C d_LW_301 rfl 0 rfl ?_
    refine l_iload_n C d_LW_302 rfl 3 rfl ?_
    refine l_iconst C d_LW_303 ic_2 ?_
    refine l_iadd C d_LW_304 ?_
    refine l_sld C q2 d_LW_305 ?_
    refine l_if_eq C d_LW_306 (tgt := 313) (by decide) (fun c306 => ?_) (fun c306 => ?_)
    · exact absurd c306 c284
    · skip
      refine l_iconst C d_LW_309 ic_1 ?_
      refine l_goto C d_LW_310 (tgt := 314) (by decide) ?_
      refine l_callM (As := [.int (xs (x3 + (1 : Int32)).toNatClampNeg), .int (1 : Int32)]) C jcl_MD cw_LW_31 w_843 w_844 gM rfl rfl (by decide) (by decide) (Nat.le_of_ble_eq_true rfl) d_LW_314 hcs (s_MD_hold C.okM rfl gM h) (fun rm IM3 h => ?_)
      refine l_icmp_eq C d_LW_317 (tgt := 887) (by decide) h.1 ?_
      exact hN _ _ h.2
set_option maxRecDepth 100000 in
set_option maxHeartbeats 4000000 in
theorem lawcase_4 {Z : jZ} {Y : lY} {b L : Nat} {xs : Nat → Int32} {kc ks : Nat} {Q : State → Prop} {Nx : jM → jM → Prop} (C : lC Z Y b L xs) (hcs : kc ≤ 600000 ∧ ks ≤ 7302249) {x3 : Int32} (q1 : vp_in (x3 + (1 : Int32)) L) (q2 : vp_in (x3 + (2 : Int32)) L) (q3 : vp_in (x3 + (3 : Int32)) L) {IX IM : jM} (h : lawN_4 Nx IX IM (xs (x3 + (1 : Int32)).toNatClampNeg) (xs (x3 + (2 : Int32)).toNatClampNeg) (xs (x3 + (3 : Int32)).toNatClampNeg)) (hN : ∀ IX2 IM2, Nx IX2 IM2 → lJ Z Y kc ks Q 887 [(0, .ref b), (1, .ref (Y.2.2 0)), (2, .ref (Y.2.2 100)), (3, .int x3)] [] IX2 IM2) : lJ Z Y kc ks Q 322 [(0, .ref b), (1, .ref (Y.2.2 0)), (2, .ref (Y.2.2 100)), (3, .int x3)] [] IX IM := by
  have gX : jOB (lX Y) 10 0 := ⟨by show 0 ∈ jLX; decide +kernel, by decide +kernel⟩
  have gM : jOB (lM Y) 11 100 := ⟨by show 100 ∈ jLM; decide +kernel, by decide +kernel⟩
  unfold lawN_4 at h
  refine l_aload_n C d_LW_322 rfl 1 rfl ?_
  refine l_aload_n C d_LW_323 rfl 0 rfl ?_
  refine l_iload_n C d_LW_324 rfl 3 rfl ?_
  refine l_iconst C d_LW_325 ic_1 ?_
  refine l_iadd C d_LW_326 ?_
  refine l_sld C q1 d_LW_327 ?_
  refine l_callX (As := [.int (xs (x3 + (1 : Int32)).toNatClampNeg)]) C jcl_OO cw_LW_32 w_389 w_390 gX rfl rfl (by decide) (by decide) (Nat.le_of_ble_eq_true rfl) d_LW_328 hcs (s_OO_order C.okX rfl gX h) (fun rx IX3 h => ?_)
  refine l_aload_n C d_LW_331 rfl 2 rfl ?_
  refine l_aload_n C d_LW_332 rfl 0 rfl ?_
  refine l_iload_n C d_LW_333 rfl 3 rfl ?_
  refine l_iconst C d_LW_334 ic_1 ?_
  refine l_iadd C d_LW_335 ?_
  refine l_sld C q1 d_LW_336 ?_
  refine l_callM (As := [.int (xs (x3 + (1 : Int32)).toNatClampNeg)]) C jcl_MD cw_LW_36 w_847 w_848 gM rfl rfl (by decide) (by decide) (Nat.le_of_ble_eq_true rfl) d_LW_337 hcs (s_MD_order C.okM rfl gM h) (fun rm IM3 h => ?_)
  refine l_icmp_eq C d_LW_340 (tgt := 887) (by decide) h.1 ?_
  exact hN _ _ h.2
set_option maxRecDepth 100000 in
set_option maxHeartbeats 4000000 in
theorem lawcase_5 {Z : jZ} {Y : lY} {b L : Nat} {xs : Nat → Int32} {kc ks : Nat} {Q : State → Prop} {Nx : jM → jM → Prop} (C : lC Z Y b L xs) (hcs : kc ≤ 600000 ∧ ks ≤ 7302249) {x3 : Int32} (q1 : vp_in (x3 + (1 : Int32)) L) (q2 : vp_in (x3 + (2 : Int32)) L) (q3 : vp_in (x3 + (3 : Int32)) L) {IX IM : jM} (h : lawN_5 Nx IX IM (xs (x3 + (1 : Int32)).toNatClampNeg) (xs (x3 + (2 : Int32)).toNatClampNeg) (xs (x3 + (3 : Int32)).toNatClampNeg)) (hN : ∀ IX2 IM2, Nx IX2 IM2 → lJ Z Y kc ks Q 887 [(0, .ref b), (1, .ref (Y.2.2 0)), (2, .ref (Y.2.2 100)), (3, .int x3)] [] IX2 IM2) : lJ Z Y kc ks Q 345 [(0, .ref b), (1, .ref (Y.2.2 0)), (2, .ref (Y.2.2 100)), (3, .int x3)] [] IX IM := by
  have gX : jOB (lX Y) 10 0 := ⟨by show 0 ∈ jLX; decide +kernel, by decide +kernel⟩
  have gM : jOB (lM Y) 11 100 := ⟨by show 100 ∈ jLM; decide +kernel, by decide +kernel⟩
  unfold lawN_5 at h
  refine l_aload_n C d_LW_345 rfl 1 rfl ?_
  refine l_aload_n C d_LW_346 rfl 0 rfl ?_
  refine l_iload_n C d_LW_347 rfl 3 rfl ?_
  refine l_iconst C d_LW_348 ic_1 ?_
  refine l_iadd C d_LW_349 ?_
  refine l_sld C q1 d_LW_350 ?_
  refine l_aload_n C d_LW_351 rfl 0 rfl ?_
  refine l_iload_n C d_LW_352 rfl 3 rfl ?_
  refine l_iconst C d_LW_353 ic_2 ?_
  refine l_iadd C d_LW_354 ?_
  refine l_sld C q2 d_LW_355 ?_
  refine l_callX (As := [.int (xs (x3 + (1 : Int32)).toNatClampNeg), .int (xs (x3 + (2 : Int32)).toNatClampNeg)]) C jcl_OO cw_LW_37 w_525 w_526 gX rfl rfl (by decide) (by decide) (Nat.le_of_ble_eq_true rfl) d_LW_356 hcs (s_OO_swap C.okX rfl gX h) (fun rx IX3 h => ?_)
  refine l_aload_n C d_LW_359 rfl 2 rfl ?_
  refine l_aload_n C d_LW_360 rfl 0 rfl ?_
  refine l_iload_n C d_LW_361 rfl 3 rfl ?_
  refine l_iconst C d_LW_362 ic_1 ?_
  refine l_iadd C d_LW_363 ?_
  refine l_sld C q1 d_LW_364 ?_
  refine l_aload_n C d_LW_365 rfl 0 rfl ?_
  refine l_iload_n C d_LW_366 rfl 3 rfl ?_
  refine l_iconst C d_LW_367 ic_2 ?_
  refine l_iadd C d_LW_368 ?_
  refine l_sld C q2 d_LW_369 ?_
  refine l_callM (As := [.int (xs (x3 + (1 : Int32)).toNatClampNeg), .int (xs (x3 + (2 : Int32)).toNatClampNeg)]) C jcl_MD cw_LW_40 w_904 w_905 gM rfl rfl (by decide) (by decide) (Nat.le_of_ble_eq_true rfl) d_LW_370 hcs (s_MD_swap C.okM rfl gM h) (fun rm IM3 h => ?_)
  refine l_icmp_eq C d_LW_373 (tgt := 887) (by decide) h.1 ?_
  exact hN _ _ h.2
set_option maxRecDepth 100000 in
set_option maxHeartbeats 4000000 in
theorem lawcase_6 {Z : jZ} {Y : lY} {b L : Nat} {xs : Nat → Int32} {kc ks : Nat} {Q : State → Prop} {Nx : jM → jM → Prop} (C : lC Z Y b L xs) (hcs : kc ≤ 600000 ∧ ks ≤ 7302249) {x3 : Int32} (q1 : vp_in (x3 + (1 : Int32)) L) (q2 : vp_in (x3 + (2 : Int32)) L) (q3 : vp_in (x3 + (3 : Int32)) L) {IX IM : jM} (h : lawN_6 Nx IX IM (xs (x3 + (1 : Int32)).toNatClampNeg) (xs (x3 + (2 : Int32)).toNatClampNeg) (xs (x3 + (3 : Int32)).toNatClampNeg)) (hN : ∀ IX2 IM2, Nx IX2 IM2 → lJ Z Y kc ks Q 887 [(0, .ref b), (1, .ref (Y.2.2 0)), (2, .ref (Y.2.2 100)), (3, .int x3)] [] IX2 IM2) : lJ Z Y kc ks Q 378 [(0, .ref b), (1, .ref (Y.2.2 0)), (2, .ref (Y.2.2 100)), (3, .int x3)] [] IX IM := by
  have gX : jOB (lX Y) 10 0 := ⟨by show 0 ∈ jLX; decide +kernel, by decide +kernel⟩
  have gM : jOB (lM Y) 11 100 := ⟨by show 100 ∈ jLM; decide +kernel, by decide +kernel⟩
  unfold lawN_6 at h
  refine l_aload_n C d_LW_378 rfl 1 rfl ?_
  refine l_aload_n C d_LW_379 rfl 0 rfl ?_
  refine l_iload_n C d_LW_380 rfl 3 rfl ?_
  refine l_iconst C d_LW_381 ic_1 ?_
  refine l_iadd C d_LW_382 ?_
  refine l_sld C q1 d_LW_383 ?_
  refine l_callX (As := [.int (xs (x3 + (1 : Int32)).toNatClampNeg)]) C jcl_OO cw_LW_41 w_530 w_531 gX rfl rfl (by decide) (by decide) (Nat.le_of_ble_eq_true rfl) d_LW_384 hcs (s_OO_at C.okX rfl gX h) (fun rx IX3 h => ?_)
  refine l_aload_n C d_LW_387 rfl 2 rfl ?_
  refine l_aload_n C d_LW_388 rfl 0 rfl ?_
  refine l_iload_n C d_LW_389 rfl 3 rfl ?_
  refine l_iconst C d_LW_390 ic_1 ?_
  refine l_iadd C d_LW_391 ?_
  refine l_sld C q1 d_LW_392 ?_
  refine l_callM (As := [.int (xs (x3 + (1 : Int32)).toNatClampNeg)]) C jcl_MD cw_LW_44 w_908 w_909 gM rfl rfl (by decide) (by decide) (Nat.le_of_ble_eq_true rfl) d_LW_393 hcs (s_MD_at C.okM rfl gM h) (fun rm IM3 h => ?_)
  refine l_icmp_eq C d_LW_396 (tgt := 887) (by decide) h.1 ?_
  exact hN _ _ h.2
set_option maxRecDepth 100000 in
set_option maxHeartbeats 4000000 in
theorem lawcase_7 {Z : jZ} {Y : lY} {b L : Nat} {xs : Nat → Int32} {kc ks : Nat} {Q : State → Prop} {Nx : jM → jM → Prop} (C : lC Z Y b L xs) (hcs : kc ≤ 600000 ∧ ks ≤ 7302249) {x3 : Int32} (q1 : vp_in (x3 + (1 : Int32)) L) (q2 : vp_in (x3 + (2 : Int32)) L) (q3 : vp_in (x3 + (3 : Int32)) L) {IX IM : jM} (h : lawN_7 Nx IX IM (xs (x3 + (1 : Int32)).toNatClampNeg) (xs (x3 + (2 : Int32)).toNatClampNeg) (xs (x3 + (3 : Int32)).toNatClampNeg)) (hN : ∀ IX2 IM2, Nx IX2 IM2 → lJ Z Y kc ks Q 887 [(0, .ref b), (1, .ref (Y.2.2 0)), (2, .ref (Y.2.2 100)), (3, .int x3)] [] IX2 IM2) : lJ Z Y kc ks Q 401 [(0, .ref b), (1, .ref (Y.2.2 0)), (2, .ref (Y.2.2 100)), (3, .int x3)] [] IX IM := by
  have gX : jOB (lX Y) 10 0 := ⟨by show 0 ∈ jLX; decide +kernel, by decide +kernel⟩
  have gM : jOB (lM Y) 11 100 := ⟨by show 100 ∈ jLM; decide +kernel, by decide +kernel⟩
  unfold lawN_7 at h
  refine l_aload_n C d_LW_401 rfl 1 rfl ?_
  refine l_callX (As := []) C jcl_OO cw_LW_45 w_534 w_535 gX rfl rfl (by decide) (by decide) (Nat.le_of_ble_eq_true rfl) d_LW_402 hcs (s_OO_fills C.okX rfl gX h) (fun rx IX3 h => ?_)
  refine l_aload_n C d_LW_405 rfl 2 rfl ?_
  refine l_callM (As := []) C jcl_MD cw_LW_49 w_896 w_897 gM rfl rfl (by decide) (by decide) (Nat.le_of_ble_eq_true rfl) d_LW_406 hcs (s_MD_fills C.okM rfl gM h) (fun rm IM3 h => ?_)
  refine l_icmp_eq C d_LW_409 (tgt := 887) (by decide) h.1 ?_
  exact hN _ _ h.2
set_option maxRecDepth 100000 in
set_option maxHeartbeats 4000000 in
theorem lawcase_8 {Z : jZ} {Y : lY} {b L : Nat} {xs : Nat → Int32} {kc ks : Nat} {Q : State → Prop} {Nx : jM → jM → Prop} (C : lC Z Y b L xs) (hcs : kc ≤ 600000 ∧ ks ≤ 7302249) {x3 : Int32} (q1 : vp_in (x3 + (1 : Int32)) L) (q2 : vp_in (x3 + (2 : Int32)) L) (q3 : vp_in (x3 + (3 : Int32)) L) {IX IM : jM} (h : lawN_8 Nx IX IM (xs (x3 + (1 : Int32)).toNatClampNeg) (xs (x3 + (2 : Int32)).toNatClampNeg) (xs (x3 + (3 : Int32)).toNatClampNeg)) (hN : ∀ IX2 IM2, Nx IX2 IM2 → lJ Z Y kc ks Q 887 [(0, .ref b), (1, .ref (Y.2.2 0)), (2, .ref (Y.2.2 100)), (3, .int x3)] [] IX2 IM2) : lJ Z Y kc ks Q 414 [(0, .ref b), (1, .ref (Y.2.2 0)), (2, .ref (Y.2.2 100)), (3, .int x3)] [] IX IM := by
  have gX : jOB (lX Y) 10 0 := ⟨by show 0 ∈ jLX; decide +kernel, by decide +kernel⟩
  have gM : jOB (lM Y) 11 100 := ⟨by show 100 ∈ jLM; decide +kernel, by decide +kernel⟩
  unfold lawN_8 at h
  refine l_aload_n C d_LW_414 rfl 1 rfl ?_
  refine l_aload_n C d_LW_415 rfl 0 rfl ?_
  refine l_iload_n C d_LW_416 rfl 3 rfl ?_
  refine l_iconst C d_LW_417 ic_1 ?_
  refine l_iadd C d_LW_418 ?_
  refine l_sld C q1 d_LW_419 ?_
  refine l_callX (As := [.int (xs (x3 + (1 : Int32)).toNatClampNeg)]) C jcl_OO cw_LW_50 w_538 w_539 gX rfl rfl (by decide) (by decide) (Nat.le_of_ble_eq_true rfl) d_LW_420 hcs (s_OO_fill C.okX rfl gX h) (fun rx IX3 h => ?_)
  refine l_aload_n C d_LW_423 rfl 2 rfl ?_
  refine l_aload_n C d_LW_424 rfl 0 rfl ?_
  refine l_iload_n C d_LW_425 rfl 3 rfl ?_
  refine l_iconst C d_LW_426 ic_1 ?_
  refine l_iadd C d_LW_427 ?_
  refine l_sld C q1 d_LW_428 ?_
  refine l_callM (As := [.int (xs (x3 + (1 : Int32)).toNatClampNeg)]) C jcl_MD cw_LW_53 w_913 w_914 gM rfl rfl (by decide) (by decide) (Nat.le_of_ble_eq_true rfl) d_LW_429 hcs (s_MD_fill C.okM rfl gM h) (fun rm IM3 h => ?_)
  refine l_icmp_eq C d_LW_432 (tgt := 887) (by decide) h.1 ?_
  exact hN _ _ h.2
set_option maxRecDepth 100000 in
set_option maxHeartbeats 4000000 in
theorem lawcase_9 {Z : jZ} {Y : lY} {b L : Nat} {xs : Nat → Int32} {kc ks : Nat} {Q : State → Prop} {Nx : jM → jM → Prop} (C : lC Z Y b L xs) (hcs : kc ≤ 600000 ∧ ks ≤ 7302249) {x3 : Int32} (q1 : vp_in (x3 + (1 : Int32)) L) (q2 : vp_in (x3 + (2 : Int32)) L) (q3 : vp_in (x3 + (3 : Int32)) L) {IX IM : jM} (h : lawN_9 Nx IX IM (xs (x3 + (1 : Int32)).toNatClampNeg) (xs (x3 + (2 : Int32)).toNatClampNeg) (xs (x3 + (3 : Int32)).toNatClampNeg)) (hN : ∀ IX2 IM2, Nx IX2 IM2 → lJ Z Y kc ks Q 887 [(0, .ref b), (1, .ref (Y.2.2 0)), (2, .ref (Y.2.2 100)), (3, .int x3)] [] IX2 IM2) : lJ Z Y kc ks Q 437 [(0, .ref b), (1, .ref (Y.2.2 0)), (2, .ref (Y.2.2 100)), (3, .int x3)] [] IX IM := by
  have gX : jOB (lX Y) 10 0 := ⟨by show 0 ∈ jLX; decide +kernel, by decide +kernel⟩
  have gM : jOB (lM Y) 11 100 := ⟨by show 100 ∈ jLM; decide +kernel, by decide +kernel⟩
  unfold lawN_9 at h
  refine l_aload_n C d_LW_437 rfl 1 rfl ?_
  refine l_aload_n C d_LW_438 rfl 0 rfl ?_
  refine l_iload_n C d_LW_439 rfl 3 rfl ?_
  refine l_iconst C d_LW_440 ic_1 ?_
  refine l_iadd C d_LW_441 ?_
  refine l_sld C q1 d_LW_442 ?_
  refine l_aload_n C d_LW_443 rfl 0 rfl ?_
  refine l_iload_n C d_LW_444 rfl 3 rfl ?_
  refine l_iconst C d_LW_445 ic_2 ?_
  refine l_iadd C d_LW_446 ?_
  refine l_sld C q2 d_LW_447 ?_
  refine l_callX (As := [.int (xs (x3 + (1 : Int32)).toNatClampNeg), .int (xs (x3 + (2 : Int32)).toNatClampNeg)]) C jcl_OO cw_LW_54 w_542 w_543 gX rfl rfl (by decide) (by decide) (Nat.le_of_ble_eq_true rfl) d_LW_448 hcs (s_OO_column C.okX rfl gX h) (fun rx IX3 h => ?_)
  refine l_aload_n C d_LW_451 rfl 2 rfl ?_
  refine l_aload_n C d_LW_452 rfl 0 rfl ?_
  refine l_iload_n C d_LW_453 rfl 3 rfl ?_
  refine l_iconst C d_LW_454 ic_1 ?_
  refine l_iadd C d_LW_455 ?_
  refine l_sld C q1 d_LW_456 ?_
  refine l_aload_n C d_LW_457 rfl 0 rfl ?_
  refine l_iload_n C d_LW_458 rfl 3 rfl ?_
  refine l_iconst C d_LW_459 ic_2 ?_
  refine l_iadd C d_LW_460 ?_
  refine l_sld C q2 d_LW_461 ?_
  refine l_callM (As := [.int (xs (x3 + (1 : Int32)).toNatClampNeg), .int (xs (x3 + (2 : Int32)).toNatClampNeg)]) C jcl_MD cw_LW_57 w_917 w_918 gM rfl rfl (by decide) (by decide) (Nat.le_of_ble_eq_true rfl) d_LW_462 hcs (s_MD_column C.okM rfl gM h) (fun rm IM3 h => ?_)
  refine l_icmp_eq C d_LW_465 (tgt := 887) (by decide) h.1 ?_
  exact hN _ _ h.2
set_option maxRecDepth 100000 in
set_option maxHeartbeats 4000000 in
theorem lawcase_10 {Z : jZ} {Y : lY} {b L : Nat} {xs : Nat → Int32} {kc ks : Nat} {Q : State → Prop} {Nx : jM → jM → Prop} (C : lC Z Y b L xs) (hcs : kc ≤ 600000 ∧ ks ≤ 7302249) {x3 : Int32} (q1 : vp_in (x3 + (1 : Int32)) L) (q2 : vp_in (x3 + (2 : Int32)) L) (q3 : vp_in (x3 + (3 : Int32)) L) {IX IM : jM} (h : lawN_10 Nx IX IM (xs (x3 + (1 : Int32)).toNatClampNeg) (xs (x3 + (2 : Int32)).toNatClampNeg) (xs (x3 + (3 : Int32)).toNatClampNeg)) (hN : ∀ IX2 IM2, Nx IX2 IM2 → lJ Z Y kc ks Q 887 [(0, .ref b), (1, .ref (Y.2.2 0)), (2, .ref (Y.2.2 100)), (3, .int x3)] [] IX2 IM2) : lJ Z Y kc ks Q 470 [(0, .ref b), (1, .ref (Y.2.2 0)), (2, .ref (Y.2.2 100)), (3, .int x3)] [] IX IM := by
  have gX : jOB (lX Y) 10 0 := ⟨by show 0 ∈ jLX; decide +kernel, by decide +kernel⟩
  have gM : jOB (lM Y) 11 100 := ⟨by show 100 ∈ jLM; decide +kernel, by decide +kernel⟩
  unfold lawN_10 at h
  refine l_aload_n C d_LW_470 rfl 1 rfl ?_
  refine l_callX (As := []) C jcl_OO cw_LW_58 w_547 w_548 gX rfl rfl (by decide) (by decide) (Nat.le_of_ble_eq_true rfl) d_LW_471 hcs (s_OO_width C.okX rfl gX h) (fun rx IX3 h => ?_)
  refine l_aload_n C d_LW_474 rfl 2 rfl ?_
  refine l_callM (As := []) C jcl_MD cw_LW_61 w_929 w_930 gM rfl rfl (by decide) (by decide) (Nat.le_of_ble_eq_true rfl) d_LW_475 hcs (s_MD_width C.okM rfl gM h) (fun rm IM3 h => ?_)
  refine l_icmp_eq C d_LW_478 (tgt := 887) (by decide) h.1 ?_
  exact hN _ _ h.2
set_option maxRecDepth 100000 in
set_option maxHeartbeats 4000000 in
theorem lawcase_11 {Z : jZ} {Y : lY} {b L : Nat} {xs : Nat → Int32} {kc ks : Nat} {Q : State → Prop} {Nx : jM → jM → Prop} (C : lC Z Y b L xs) (hcs : kc ≤ 600000 ∧ ks ≤ 7302249) {x3 : Int32} (q1 : vp_in (x3 + (1 : Int32)) L) (q2 : vp_in (x3 + (2 : Int32)) L) (q3 : vp_in (x3 + (3 : Int32)) L) {IX IM : jM} (h : lawN_11 Nx IX IM (xs (x3 + (1 : Int32)).toNatClampNeg) (xs (x3 + (2 : Int32)).toNatClampNeg) (xs (x3 + (3 : Int32)).toNatClampNeg)) (hN : ∀ IX2 IM2, Nx IX2 IM2 → lJ Z Y kc ks Q 887 [(0, .ref b), (1, .ref (Y.2.2 0)), (2, .ref (Y.2.2 100)), (3, .int x3)] [] IX2 IM2) : lJ Z Y kc ks Q 483 [(0, .ref b), (1, .ref (Y.2.2 0)), (2, .ref (Y.2.2 100)), (3, .int x3)] [] IX IM := by
  have gX : jOB (lX Y) 10 0 := ⟨by show 0 ∈ jLX; decide +kernel, by decide +kernel⟩
  have gM : jOB (lM Y) 11 100 := ⟨by show 100 ∈ jLM; decide +kernel, by decide +kernel⟩
  unfold lawN_11 at h
  refine l_aload_n C d_LW_483 rfl 1 rfl ?_
  refine l_aload_n C d_LW_484 rfl 0 rfl ?_
  refine l_iload_n C d_LW_485 rfl 3 rfl ?_
  refine l_iconst C d_LW_486 ic_1 ?_
  refine l_iadd C d_LW_487 ?_
  refine l_sld C q1 d_LW_488 ?_
  refine l_callX (As := [.int (xs (x3 + (1 : Int32)).toNatClampNeg)]) C jcl_OO cw_LW_62 w_551 w_552 gX rfl rfl (by decide) (by decide) (Nat.le_of_ble_eq_true rfl) d_LW_489 hcs (s_OO_group C.okX rfl gX h) (fun rx IX3 h => ?_)
  refine l_aload_n C d_LW_492 rfl 2 rfl ?_
  refine l_aload_n C d_LW_493 rfl 0 rfl ?_
  refine l_iload_n C d_LW_494 rfl 3 rfl ?_
  refine l_iconst C d_LW_495 ic_1 ?_
  refine l_iadd C d_LW_496 ?_
  refine l_sld C q1 d_LW_497 ?_
  refine l_callM (As := [.int (xs (x3 + (1 : Int32)).toNatClampNeg)]) C jcl_MD cw_LW_65 w_933 w_934 gM rfl rfl (by decide) (by decide) (Nat.le_of_ble_eq_true rfl) d_LW_498 hcs (s_MD_group C.okM rfl gM h) (fun rm IM3 h => ?_)
  refine l_icmp_eq C d_LW_501 (tgt := 887) (by decide) h.1 ?_
  exact hN _ _ h.2
set_option maxRecDepth 100000 in
set_option maxHeartbeats 4000000 in
theorem lawcase_12 {Z : jZ} {Y : lY} {b L : Nat} {xs : Nat → Int32} {kc ks : Nat} {Q : State → Prop} {Nx : jM → jM → Prop} (C : lC Z Y b L xs) (hcs : kc ≤ 600000 ∧ ks ≤ 7302249) {x3 : Int32} (q1 : vp_in (x3 + (1 : Int32)) L) (q2 : vp_in (x3 + (2 : Int32)) L) (q3 : vp_in (x3 + (3 : Int32)) L) {IX IM : jM} (h : lawN_12 Nx IX IM (xs (x3 + (1 : Int32)).toNatClampNeg) (xs (x3 + (2 : Int32)).toNatClampNeg) (xs (x3 + (3 : Int32)).toNatClampNeg)) (hN : ∀ IX2 IM2, Nx IX2 IM2 → lJ Z Y kc ks Q 887 [(0, .ref b), (1, .ref (Y.2.2 0)), (2, .ref (Y.2.2 100)), (3, .int x3)] [] IX2 IM2) : lJ Z Y kc ks Q 506 [(0, .ref b), (1, .ref (Y.2.2 0)), (2, .ref (Y.2.2 100)), (3, .int x3)] [] IX IM := by
  have gX : jOB (lX Y) 10 0 := ⟨by show 0 ∈ jLX; decide +kernel, by decide +kernel⟩
  have gM : jOB (lM Y) 11 100 := ⟨by show 100 ∈ jLM; decide +kernel, by decide +kernel⟩
  unfold lawN_12 at h
  refine l_aload_n C d_LW_506 rfl 1 rfl ?_
  refine l_callX (As := []) C jcl_OO cw_LW_66 w_555 w_556 gX rfl rfl (by decide) (by decide) (Nat.le_of_ble_eq_true rfl) d_LW_507 hcs (s_OO_isClean C.okX rfl gX h) (fun rx IX2 h => ?_)
  obtain ⟨rfl, h⟩ := h
  refine l_aload_n C d_LW_510 rfl 2 rfl ?_
  refine l_callM (As := []) C jcl_MD cw_LW_70 w_937 w_938 gM rfl rfl (by decide) (by decide) (Nat.le_of_ble_eq_true rfl) d_LW_511 hcs (s_MD_isClean C.okM rfl gM h) (fun rm IM3 h => ?_)
  refine l_icmp_eq C d_LW_514 (tgt := 887) (by decide) h.1 ?_
  exact hN _ _ h.2
set_option maxRecDepth 100000 in
set_option maxHeartbeats 4000000 in
theorem lawcase_13 {Z : jZ} {Y : lY} {b L : Nat} {xs : Nat → Int32} {kc ks : Nat} {Q : State → Prop} {Nx : jM → jM → Prop} (C : lC Z Y b L xs) (hcs : kc ≤ 600000 ∧ ks ≤ 7302249) {x3 : Int32} (q1 : vp_in (x3 + (1 : Int32)) L) (q2 : vp_in (x3 + (2 : Int32)) L) (q3 : vp_in (x3 + (3 : Int32)) L) {IX IM : jM} (h : lawN_13 Nx IX IM (xs (x3 + (1 : Int32)).toNatClampNeg) (xs (x3 + (2 : Int32)).toNatClampNeg) (xs (x3 + (3 : Int32)).toNatClampNeg)) (hN : ∀ IX2 IM2, Nx IX2 IM2 → lJ Z Y kc ks Q 887 [(0, .ref b), (1, .ref (Y.2.2 0)), (2, .ref (Y.2.2 100)), (3, .int x3)] [] IX2 IM2) : lJ Z Y kc ks Q 519 [(0, .ref b), (1, .ref (Y.2.2 0)), (2, .ref (Y.2.2 100)), (3, .int x3)] [] IX IM := by
  have gX : jOB (lX Y) 10 0 := ⟨by show 0 ∈ jLX; decide +kernel, by decide +kernel⟩
  have gM : jOB (lM Y) 11 100 := ⟨by show 100 ∈ jLM; decide +kernel, by decide +kernel⟩
  unfold lawN_13 at h
  refine l_aload_n C d_LW_519 rfl 1 rfl ?_
  refine l_callX (As := []) C jcl_OO cw_LW_71 w_568 w_569 gX rfl rfl (by decide) (by decide) (Nat.le_of_ble_eq_true rfl) d_LW_520 hcs (s_OO_ring C.okX rfl gX h) (fun rx IX2 h => ?_)
  obtain ⟨rfl, h⟩ := h
  refine l_aload_n C d_LW_523 rfl 2 rfl ?_
  refine l_callM (As := []) C jcl_MD cw_LW_74 w_941 w_942 gM rfl rfl (by decide) (by decide) (Nat.le_of_ble_eq_true rfl) d_LW_524 hcs (s_MD_ring C.okM rfl gM h) (fun rm IM3 h => ?_)
  refine l_icmp_eq C d_LW_527 (tgt := 887) (by decide) h.1 ?_
  exact hN _ _ h.2
set_option maxRecDepth 100000 in
set_option maxHeartbeats 4000000 in
theorem lawcase_14 {Z : jZ} {Y : lY} {b L : Nat} {xs : Nat → Int32} {kc ks : Nat} {Q : State → Prop} {Nx : jM → jM → Prop} (C : lC Z Y b L xs) (hcs : kc ≤ 600000 ∧ ks ≤ 7302249) {x3 : Int32} (q1 : vp_in (x3 + (1 : Int32)) L) (q2 : vp_in (x3 + (2 : Int32)) L) (q3 : vp_in (x3 + (3 : Int32)) L) {IX IM : jM} (h : lawN_14 Nx IX IM (xs (x3 + (1 : Int32)).toNatClampNeg) (xs (x3 + (2 : Int32)).toNatClampNeg) (xs (x3 + (3 : Int32)).toNatClampNeg)) (hN : ∀ IX2 IM2, Nx IX2 IM2 → lJ Z Y kc ks Q 887 [(0, .ref b), (1, .ref (Y.2.2 0)), (2, .ref (Y.2.2 100)), (3, .int x3)] [] IX2 IM2) : lJ Z Y kc ks Q 532 [(0, .ref b), (1, .ref (Y.2.2 0)), (2, .ref (Y.2.2 100)), (3, .int x3)] [] IX IM := by
  have gX : jOB (lX Y) 10 0 := ⟨by show 0 ∈ jLX; decide +kernel, by decide +kernel⟩
  have gM : jOB (lM Y) 11 100 := ⟨by show 100 ∈ jLM; decide +kernel, by decide +kernel⟩
  unfold lawN_14 at h
  refine l_aload_n C d_LW_532 rfl 1 rfl ?_
  refine l_aload_n C d_LW_533 rfl 0 rfl ?_
  refine l_iload_n C d_LW_534 rfl 3 rfl ?_
  refine l_iconst C d_LW_535 ic_1 ?_
  refine l_iadd C d_LW_536 ?_
  refine l_sld C q1 d_LW_537 ?_
  refine l_callX (As := [.int (xs (x3 + (1 : Int32)).toNatClampNeg)]) C jcl_OO cw_LW_75 w_572 w_573 gX rfl rfl (by decide) (by decide) (Nat.le_of_ble_eq_true rfl) d_LW_538 hcs (s_OO_least C.okX rfl gX h) (fun rx IX3 h => ?_)
  refine l_aload_n C d_LW_541 rfl 2 rfl ?_
  refine l_aload_n C d_LW_542 rfl 0 rfl ?_
  refine l_iload_n C d_LW_543 rfl 3 rfl ?_
  refine l_iconst C d_LW_544 ic_1 ?_
  refine l_iadd C d_LW_545 ?_
  refine l_sld C q1 d_LW_546 ?_
  refine l_callM (As := [.int (xs (x3 + (1 : Int32)).toNatClampNeg)]) C jcl_MD cw_LW_78 w_949 w_950 gM rfl rfl (by decide) (by decide) (Nat.le_of_ble_eq_true rfl) d_LW_547 hcs (s_MD_least C.okM rfl gM h) (fun rm IM3 h => ?_)
  refine l_icmp_eq C d_LW_550 (tgt := 887) (by decide) h.1 ?_
  exact hN _ _ h.2
set_option maxRecDepth 100000 in
set_option maxHeartbeats 4000000 in
theorem lawcase_15 {Z : jZ} {Y : lY} {b L : Nat} {xs : Nat → Int32} {kc ks : Nat} {Q : State → Prop} {Nx : jM → jM → Prop} (C : lC Z Y b L xs) (hcs : kc ≤ 600000 ∧ ks ≤ 7302249) {x3 : Int32} (q1 : vp_in (x3 + (1 : Int32)) L) (q2 : vp_in (x3 + (2 : Int32)) L) (q3 : vp_in (x3 + (3 : Int32)) L) {IX IM : jM} (h : lawN_15 Nx IX IM (xs (x3 + (1 : Int32)).toNatClampNeg) (xs (x3 + (2 : Int32)).toNatClampNeg) (xs (x3 + (3 : Int32)).toNatClampNeg)) (hN : ∀ IX2 IM2, Nx IX2 IM2 → lJ Z Y kc ks Q 887 [(0, .ref b), (1, .ref (Y.2.2 0)), (2, .ref (Y.2.2 100)), (3, .int x3)] [] IX2 IM2) : lJ Z Y kc ks Q 555 [(0, .ref b), (1, .ref (Y.2.2 0)), (2, .ref (Y.2.2 100)), (3, .int x3)] [] IX IM := by
  have gX : jOB (lX Y) 10 0 := ⟨by show 0 ∈ jLX; decide +kernel, by decide +kernel⟩
  have gM : jOB (lM Y) 11 100 := ⟨by show 100 ∈ jLM; decide +kernel, by decide +kernel⟩
  unfold lawN_15 at h
  refine l_aload_n C d_LW_555 rfl 1 rfl ?_
  refine l_callX (As := []) C jcl_OO cw_LW_79 w_581 w_582 gX rfl rfl (by decide) (by decide) (Nat.le_of_ble_eq_true rfl) d_LW_556 hcs (s_OO_begin C.okX rfl gX h) (fun rx IX3 h => ?_)
  refine l_aload_n C d_LW_559 rfl 2 rfl ?_
  refine l_callM (As := []) C jcl_MD cw_LW_82 w_816 w_817 gM rfl rfl (by decide) (by decide) (Nat.le_of_ble_eq_true rfl) d_LW_560 hcs (s_MD_begin C.okM rfl gM h) (fun rm IM3 h => ?_)
  refine l_icmp_eq C d_LW_563 (tgt := 887) (by decide) h.1 ?_
  exact hN _ _ h.2
set_option maxRecDepth 100000 in
set_option maxHeartbeats 4000000 in
theorem lawcase_16 {Z : jZ} {Y : lY} {b L : Nat} {xs : Nat → Int32} {kc ks : Nat} {Q : State → Prop} {Nx : jM → jM → Prop} (C : lC Z Y b L xs) (hcs : kc ≤ 600000 ∧ ks ≤ 7302249) {x3 : Int32} (q1 : vp_in (x3 + (1 : Int32)) L) (q2 : vp_in (x3 + (2 : Int32)) L) (q3 : vp_in (x3 + (3 : Int32)) L) {IX IM : jM} (h : lawN_16 Nx IX IM (xs (x3 + (1 : Int32)).toNatClampNeg) (xs (x3 + (2 : Int32)).toNatClampNeg) (xs (x3 + (3 : Int32)).toNatClampNeg)) (hN : ∀ IX2 IM2, Nx IX2 IM2 → lJ Z Y kc ks Q 887 [(0, .ref b), (1, .ref (Y.2.2 0)), (2, .ref (Y.2.2 100)), (3, .int x3)] [] IX2 IM2) : lJ Z Y kc ks Q 568 [(0, .ref b), (1, .ref (Y.2.2 0)), (2, .ref (Y.2.2 100)), (3, .int x3)] [] IX IM := by
  have gX : jOB (lX Y) 10 0 := ⟨by show 0 ∈ jLX; decide +kernel, by decide +kernel⟩
  have gM : jOB (lM Y) 11 100 := ⟨by show 100 ∈ jLM; decide +kernel, by decide +kernel⟩
  unfold lawN_16 at h
  refine l_aload_n C d_LW_568 rfl 1 rfl ?_
  refine l_aload_n C d_LW_569 rfl 0 rfl ?_
  refine l_iload_n C d_LW_570 rfl 3 rfl ?_
  refine l_iconst C d_LW_571 ic_1 ?_
  refine l_iadd C d_LW_572 ?_
  refine l_sld C q1 d_LW_573 ?_
  refine l_callX (As := [.int (xs (x3 + (1 : Int32)).toNatClampNeg)]) C jcl_OO cw_LW_83 w_585 w_586 gX rfl rfl (by decide) (by decide) (Nat.le_of_ble_eq_true rfl) d_LW_574 hcs (s_OO_out C.okX rfl gX h) (fun rx IX3 h => ?_)
  refine l_aload_n C d_LW_577 rfl 2 rfl ?_
  refine l_aload_n C d_LW_578 rfl 0 rfl ?_
  refine l_iload_n C d_LW_579 rfl 3 rfl ?_
  refine l_iconst C d_LW_580 ic_1 ?_
  refine l_iadd C d_LW_581 ?_
  refine l_sld C q1 d_LW_582 ?_
  refine l_callM (As := [.int (xs (x3 + (1 : Int32)).toNatClampNeg)]) C jcl_MD cw_LW_86 w_954 w_955 gM rfl rfl (by decide) (by decide) (Nat.le_of_ble_eq_true rfl) d_LW_583 hcs (s_MD_out C.okM rfl gM h) (fun rm IM3 h => ?_)
  refine l_icmp_eq C d_LW_586 (tgt := 887) (by decide) h.1 ?_
  exact hN _ _ h.2
set_option maxRecDepth 100000 in
set_option maxHeartbeats 4000000 in
theorem lawcase_17 {Z : jZ} {Y : lY} {b L : Nat} {xs : Nat → Int32} {kc ks : Nat} {Q : State → Prop} {Nx : jM → jM → Prop} (C : lC Z Y b L xs) (hcs : kc ≤ 600000 ∧ ks ≤ 7302249) {x3 : Int32} (q1 : vp_in (x3 + (1 : Int32)) L) (q2 : vp_in (x3 + (2 : Int32)) L) (q3 : vp_in (x3 + (3 : Int32)) L) {IX IM : jM} (h : lawN_17 Nx IX IM (xs (x3 + (1 : Int32)).toNatClampNeg) (xs (x3 + (2 : Int32)).toNatClampNeg) (xs (x3 + (3 : Int32)).toNatClampNeg)) (hN : ∀ IX2 IM2, Nx IX2 IM2 → lJ Z Y kc ks Q 887 [(0, .ref b), (1, .ref (Y.2.2 0)), (2, .ref (Y.2.2 100)), (3, .int x3)] [] IX2 IM2) : lJ Z Y kc ks Q 591 [(0, .ref b), (1, .ref (Y.2.2 0)), (2, .ref (Y.2.2 100)), (3, .int x3)] [] IX IM := by
  have gX : jOB (lX Y) 10 0 := ⟨by show 0 ∈ jLX; decide +kernel, by decide +kernel⟩
  have gM : jOB (lM Y) 11 100 := ⟨by show 100 ∈ jLM; decide +kernel, by decide +kernel⟩
  unfold lawN_17 at h
  refine l_aload_n C d_LW_591 rfl 1 rfl ?_
  refine l_aload_n C d_LW_592 rfl 0 rfl ?_
  refine l_iload_n C d_LW_593 rfl 3 rfl ?_
  refine l_iconst C d_LW_594 ic_1 ?_
  refine l_iadd C d_LW_595 ?_
  refine l_sld C q1 d_LW_596 ?_
  refine l_aload_n C d_LW_597 rfl 0 rfl ?_
  refine l_iload_n C d_LW_598 rfl 3 rfl ?_
  refine l_iconst C d_LW_599 ic_2 ?_
  refine l_iadd C d_LW_600 ?_
  refine l_sld C q2 d_LW_601 ?_
  refine l_callX (As := [.int (xs (x3 + (1 : Int32)).toNatClampNeg), .int (xs (x3 + (2 : Int32)).toNatClampNeg)]) C jcl_OO cw_LW_87 w_596 w_597 gX rfl rfl (by decide) (by decide) (Nat.le_of_ble_eq_true rfl) d_LW_602 hcs (s_OO_going C.okX rfl gX h) (fun rx IX3 h => ?_)
  refine l_aload_n C d_LW_605 rfl 2 rfl ?_
  refine l_aload_n C d_LW_606 rfl 0 rfl ?_
  refine l_iload_n C d_LW_607 rfl 3 rfl ?_
  refine l_iconst C d_LW_608 ic_1 ?_
  refine l_iadd C d_LW_609 ?_
  refine l_sld C q1 d_LW_610 ?_
  refine l_aload_n C d_LW_611 rfl 0 rfl ?_
  refine l_iload_n C d_LW_612 rfl 3 rfl ?_
  refine l_iconst C d_LW_613 ic_2 ?_
  refine l_iadd C d_LW_614 ?_
  refine l_sld C q2 d_LW_615 ?_
  refine l_callM (As := [.int (xs (x3 + (1 : Int32)).toNatClampNeg), .int (xs (x3 + (2 : Int32)).toNatClampNeg)]) C jcl_MD cw_LW_90 w_970 w_971 gM rfl rfl (by decide) (by decide) (Nat.le_of_ble_eq_true rfl) d_LW_616 hcs (s_MD_going C.okM rfl gM h) (fun rm IM3 h => ?_)
  refine l_icmp_eq C d_LW_619 (tgt := 887) (by decide) h.1 ?_
  exact hN _ _ h.2
set_option maxRecDepth 100000 in
set_option maxHeartbeats 4000000 in
theorem lawcase_18 {Z : jZ} {Y : lY} {b L : Nat} {xs : Nat → Int32} {kc ks : Nat} {Q : State → Prop} {Nx : jM → jM → Prop} (C : lC Z Y b L xs) (hcs : kc ≤ 600000 ∧ ks ≤ 7302249) {x3 : Int32} (q1 : vp_in (x3 + (1 : Int32)) L) (q2 : vp_in (x3 + (2 : Int32)) L) (q3 : vp_in (x3 + (3 : Int32)) L) {IX IM : jM} (h : lawN_18 Nx IX IM (xs (x3 + (1 : Int32)).toNatClampNeg) (xs (x3 + (2 : Int32)).toNatClampNeg) (xs (x3 + (3 : Int32)).toNatClampNeg)) (hN : ∀ IX2 IM2, Nx IX2 IM2 → lJ Z Y kc ks Q 887 [(0, .ref b), (1, .ref (Y.2.2 0)), (2, .ref (Y.2.2 100)), (3, .int x3)] [] IX2 IM2) : lJ Z Y kc ks Q 624 [(0, .ref b), (1, .ref (Y.2.2 0)), (2, .ref (Y.2.2 100)), (3, .int x3)] [] IX IM := by
  have gX : jOB (lX Y) 10 0 := ⟨by show 0 ∈ jLX; decide +kernel, by decide +kernel⟩
  have gM : jOB (lM Y) 11 100 := ⟨by show 100 ∈ jLM; decide +kernel, by decide +kernel⟩
  unfold lawN_18 at h
  refine l_aload_n C d_LW_624 rfl 1 rfl ?_
  refine l_callX (As := []) C jcl_OO cw_LW_91 w_609 w_610 gX rfl rfl (by decide) (by decide) (Nat.le_of_ble_eq_true rfl) d_LW_625 hcs (s_OO_back C.okX rfl gX h) (fun rx IX3 h => ?_)
  refine l_aload_n C d_LW_628 rfl 2 rfl ?_
  refine l_callM (As := []) C jcl_MD cw_LW_94 w_978 w_979 gM rfl rfl (by decide) (by decide) (Nat.le_of_ble_eq_true rfl) d_LW_629 hcs (s_MD_back C.okM rfl gM h) (fun rm IM3 h => ?_)
  refine l_icmp_eq C d_LW_632 (tgt := 887) (by decide) h.1 ?_
  exact hN _ _ h.2
set_option maxRecDepth 100000 in
set_option maxHeartbeats 4000000 in
theorem lawcase_19 {Z : jZ} {Y : lY} {b L : Nat} {xs : Nat → Int32} {kc ks : Nat} {Q : State → Prop} {Nx : jM → jM → Prop} (C : lC Z Y b L xs) (hcs : kc ≤ 600000 ∧ ks ≤ 7302249) {x3 : Int32} (q1 : vp_in (x3 + (1 : Int32)) L) (q2 : vp_in (x3 + (2 : Int32)) L) (q3 : vp_in (x3 + (3 : Int32)) L) {IX IM : jM} (h : lawN_19 Nx IX IM (xs (x3 + (1 : Int32)).toNatClampNeg) (xs (x3 + (2 : Int32)).toNatClampNeg) (xs (x3 + (3 : Int32)).toNatClampNeg)) (hN : ∀ IX2 IM2, Nx IX2 IM2 → lJ Z Y kc ks Q 887 [(0, .ref b), (1, .ref (Y.2.2 0)), (2, .ref (Y.2.2 100)), (3, .int x3)] [] IX2 IM2) : lJ Z Y kc ks Q 637 [(0, .ref b), (1, .ref (Y.2.2 0)), (2, .ref (Y.2.2 100)), (3, .int x3)] [] IX IM := by
  have gX : jOB (lX Y) 10 0 := ⟨by show 0 ∈ jLX; decide +kernel, by decide +kernel⟩
  have gM : jOB (lM Y) 11 100 := ⟨by show 100 ∈ jLM; decide +kernel, by decide +kernel⟩
  unfold lawN_19 at h
  refine l_aload_n C d_LW_637 rfl 1 rfl ?_
  refine l_callX (As := []) C jcl_OO cw_LW_95 w_617 w_618 gX rfl rfl (by decide) (by decide) (Nat.le_of_ble_eq_true rfl) d_LW_638 hcs (s_OO_work C.okX rfl gX h) (fun rx IX3 h => ?_)
  refine l_aload_n C d_LW_641 rfl 2 rfl ?_
  refine l_callM (As := []) C jcl_MD cw_LW_98 w_982 w_983 gM rfl rfl (by decide) (by decide) (Nat.le_of_ble_eq_true rfl) d_LW_642 hcs (s_MD_work C.okM rfl gM h) (fun rm IM3 h => ?_)
  refine l_icmp_eq C d_LW_645 (tgt := 887) (by decide) h.1 ?_
  exact hN _ _ h.2
set_option maxRecDepth 100000 in
set_option maxHeartbeats 4000000 in
theorem lawcase_20 {Z : jZ} {Y : lY} {b L : Nat} {xs : Nat → Int32} {kc ks : Nat} {Q : State → Prop} {Nx : jM → jM → Prop} (C : lC Z Y b L xs) (hcs : kc ≤ 600000 ∧ ks ≤ 7302249) {x3 : Int32} (q1 : vp_in (x3 + (1 : Int32)) L) (q2 : vp_in (x3 + (2 : Int32)) L) (q3 : vp_in (x3 + (3 : Int32)) L) {IX IM : jM} (h : lawN_20 Nx IX IM (xs (x3 + (1 : Int32)).toNatClampNeg) (xs (x3 + (2 : Int32)).toNatClampNeg) (xs (x3 + (3 : Int32)).toNatClampNeg)) (hN : ∀ IX2 IM2, Nx IX2 IM2 → lJ Z Y kc ks Q 887 [(0, .ref b), (1, .ref (Y.2.2 0)), (2, .ref (Y.2.2 100)), (3, .int x3)] [] IX2 IM2) : lJ Z Y kc ks Q 650 [(0, .ref b), (1, .ref (Y.2.2 0)), (2, .ref (Y.2.2 100)), (3, .int x3)] [] IX IM := by
  have gX : jOB (lX Y) 10 0 := ⟨by show 0 ∈ jLX; decide +kernel, by decide +kernel⟩
  have gM : jOB (lM Y) 11 100 := ⟨by show 100 ∈ jLM; decide +kernel, by decide +kernel⟩
  unfold lawN_20 at h
  refine l_aload_n C d_LW_650 rfl 1 rfl ?_
  refine l_aload_n C d_LW_651 rfl 0 rfl ?_
  refine l_iload_n C d_LW_652 rfl 3 rfl ?_
  refine l_iconst C d_LW_653 ic_1 ?_
  refine l_iadd C d_LW_654 ?_
  refine l_sld C q1 d_LW_655 ?_
  refine l_callX (As := [.int (xs (x3 + (1 : Int32)).toNatClampNeg)]) C jcl_OO cw_LW_99 w_649 w_650 gX rfl rfl (by decide) (by decide) (Nat.le_of_ble_eq_true rfl) d_LW_656 hcs (s_OO_pivot C.okX rfl gX h) (fun rx IX3 h => ?_)
  refine l_aload_n C d_LW_659 rfl 2 rfl ?_
  refine l_aload_n C d_LW_660 rfl 0 rfl ?_
  refine l_iload_n C d_LW_661 rfl 3 rfl ?_
  refine l_iconst C d_LW_662 ic_1 ?_
  refine l_iadd C d_LW_663 ?_
  refine l_sld C q1 d_LW_664 ?_
  refine l_callM (As := [.int (xs (x3 + (1 : Int32)).toNatClampNeg)]) C jcl_MD cw_LW_102 w_994 w_995 gM rfl rfl (by decide) (by decide) (Nat.le_of_ble_eq_true rfl) d_LW_665 hcs (s_MD_pivot C.okM rfl gM h) (fun rm IM3 h => ?_)
  refine l_icmp_eq C d_LW_668 (tgt := 887) (by decide) h.1 ?_
  exact hN _ _ h.2
set_option maxRecDepth 100000 in
set_option maxHeartbeats 4000000 in
theorem lawcase_21 {Z : jZ} {Y : lY} {b L : Nat} {xs : Nat → Int32} {kc ks : Nat} {Q : State → Prop} {Nx : jM → jM → Prop} (C : lC Z Y b L xs) (hcs : kc ≤ 600000 ∧ ks ≤ 7302249) {x3 : Int32} (q1 : vp_in (x3 + (1 : Int32)) L) (q2 : vp_in (x3 + (2 : Int32)) L) (q3 : vp_in (x3 + (3 : Int32)) L) {IX IM : jM} (h : lawN_21 Nx IX IM (xs (x3 + (1 : Int32)).toNatClampNeg) (xs (x3 + (2 : Int32)).toNatClampNeg) (xs (x3 + (3 : Int32)).toNatClampNeg)) (hN : ∀ IX2 IM2, Nx IX2 IM2 → lJ Z Y kc ks Q 887 [(0, .ref b), (1, .ref (Y.2.2 0)), (2, .ref (Y.2.2 100)), (3, .int x3)] [] IX2 IM2) : lJ Z Y kc ks Q 673 [(0, .ref b), (1, .ref (Y.2.2 0)), (2, .ref (Y.2.2 100)), (3, .int x3)] [] IX IM := by
  have gX : jOB (lX Y) 10 0 := ⟨by show 0 ∈ jLX; decide +kernel, by decide +kernel⟩
  have gM : jOB (lM Y) 11 100 := ⟨by show 100 ∈ jLM; decide +kernel, by decide +kernel⟩
  unfold lawN_21 at h
  refine l_aload_n C d_LW_673 rfl 1 rfl ?_
  refine l_aload_n C d_LW_674 rfl 0 rfl ?_
  refine l_iload_n C d_LW_675 rfl 3 rfl ?_
  refine l_iconst C d_LW_676 ic_1 ?_
  refine l_iadd C d_LW_677 ?_
  refine l_sld C q1 d_LW_678 ?_
  refine l_aload_n C d_LW_679 rfl 0 rfl ?_
  refine l_iload_n C d_LW_680 rfl 3 rfl ?_
  refine l_iconst C d_LW_681 ic_2 ?_
  refine l_iadd C d_LW_682 ?_
  refine l_sld C q2 d_LW_683 ?_
  refine l_callX (As := [.int (xs (x3 + (1 : Int32)).toNatClampNeg), .int (xs (x3 + (2 : Int32)).toNatClampNeg)]) C jcl_OO cw_LW_103 w_653 w_654 gX rfl rfl (by decide) (by decide) (Nat.le_of_ble_eq_true rfl) d_LW_684 hcs (s_OO_one C.okX rfl gX h) (fun rx IX3 h => ?_)
  refine l_aload_n C d_LW_687 rfl 2 rfl ?_
  refine l_aload_n C d_LW_688 rfl 0 rfl ?_
  refine l_iload_n C d_LW_689 rfl 3 rfl ?_
  refine l_iconst C d_LW_690 ic_1 ?_
  refine l_iadd C d_LW_691 ?_
  refine l_sld C q1 d_LW_692 ?_
  refine l_aload_n C d_LW_693 rfl 0 rfl ?_
  refine l_iload_n C d_LW_694 rfl 3 rfl ?_
  refine l_iconst C d_LW_695 ic_2 ?_
  refine l_iadd C d_LW_696 ?_
  refine l_sld C q2 d_LW_697 ?_
  refine l_callM (As := [.int (xs (x3 + (1 : Int32)).toNatClampNeg), .int (xs (x3 + (2 : Int32)).toNatClampNeg)]) C jcl_MD cw_LW_106 w_1002 w_1003 gM rfl rfl (by decide) (by decide) (Nat.le_of_ble_eq_true rfl) d_LW_698 hcs (s_MD_one C.okM rfl gM h) (fun rm IM3 h => ?_)
  refine l_icmp_eq C d_LW_701 (tgt := 887) (by decide) h.1 ?_
  exact hN _ _ h.2
set_option maxRecDepth 100000 in
set_option maxHeartbeats 4000000 in
theorem lawcase_22 {Z : jZ} {Y : lY} {b L : Nat} {xs : Nat → Int32} {kc ks : Nat} {Q : State → Prop} {Nx : jM → jM → Prop} (C : lC Z Y b L xs) (hcs : kc ≤ 600000 ∧ ks ≤ 7302249) {x3 : Int32} (q1 : vp_in (x3 + (1 : Int32)) L) (q2 : vp_in (x3 + (2 : Int32)) L) (q3 : vp_in (x3 + (3 : Int32)) L) {IX IM : jM} (h : lawN_22 Nx IX IM (xs (x3 + (1 : Int32)).toNatClampNeg) (xs (x3 + (2 : Int32)).toNatClampNeg) (xs (x3 + (3 : Int32)).toNatClampNeg)) (hN : ∀ IX2 IM2, Nx IX2 IM2 → lJ Z Y kc ks Q 887 [(0, .ref b), (1, .ref (Y.2.2 0)), (2, .ref (Y.2.2 100)), (3, .int x3)] [] IX2 IM2) : lJ Z Y kc ks Q 706 [(0, .ref b), (1, .ref (Y.2.2 0)), (2, .ref (Y.2.2 100)), (3, .int x3)] [] IX IM := by
  have gX : jOB (lX Y) 10 0 := ⟨by show 0 ∈ jLX; decide +kernel, by decide +kernel⟩
  have gM : jOB (lM Y) 11 100 := ⟨by show 100 ∈ jLM; decide +kernel, by decide +kernel⟩
  unfold lawN_22 at h
  refine l_aload_n C d_LW_706 rfl 1 rfl ?_
  refine l_callX (As := []) C jcl_OO cw_LW_107 w_661 w_662 gX rfl rfl (by decide) (by decide) (Nat.le_of_ble_eq_true rfl) d_LW_707 hcs (s_OO_worth C.okX rfl gX h) (fun rx IX3 h => ?_)
  refine l_aload_n C d_LW_710 rfl 2 rfl ?_
  refine l_callM (As := []) C jcl_MD cw_LW_110 w_1006 w_1007 gM rfl rfl (by decide) (by decide) (Nat.le_of_ble_eq_true rfl) d_LW_711 hcs (s_MD_worth C.okM rfl gM h) (fun rm IM3 h => ?_)
  refine l_icmp_eq C d_LW_714 (tgt := 887) (by decide) h.1 ?_
  exact hN _ _ h.2
set_option maxRecDepth 100000 in
set_option maxHeartbeats 4000000 in
theorem lawcase_23 {Z : jZ} {Y : lY} {b L : Nat} {xs : Nat → Int32} {kc ks : Nat} {Q : State → Prop} {Nx : jM → jM → Prop} (C : lC Z Y b L xs) (hcs : kc ≤ 600000 ∧ ks ≤ 7302249) {x3 : Int32} (q1 : vp_in (x3 + (1 : Int32)) L) (q2 : vp_in (x3 + (2 : Int32)) L) (q3 : vp_in (x3 + (3 : Int32)) L) {IX IM : jM} (h : lawN_23 Nx IX IM (xs (x3 + (1 : Int32)).toNatClampNeg) (xs (x3 + (2 : Int32)).toNatClampNeg) (xs (x3 + (3 : Int32)).toNatClampNeg)) (hN : ∀ IX2 IM2, Nx IX2 IM2 → lJ Z Y kc ks Q 887 [(0, .ref b), (1, .ref (Y.2.2 0)), (2, .ref (Y.2.2 100)), (3, .int x3)] [] IX2 IM2) : lJ Z Y kc ks Q 719 [(0, .ref b), (1, .ref (Y.2.2 0)), (2, .ref (Y.2.2 100)), (3, .int x3)] [] IX IM := by
  have gX : jOB (lX Y) 10 0 := ⟨by show 0 ∈ jLX; decide +kernel, by decide +kernel⟩
  have gM : jOB (lM Y) 11 100 := ⟨by show 100 ∈ jLM; decide +kernel, by decide +kernel⟩
  unfold lawN_23 at h
  refine l_aload_n C d_LW_719 rfl 1 rfl ?_
  refine l_aload_n C d_LW_720 rfl 0 rfl ?_
  refine l_iload_n C d_LW_721 rfl 3 rfl ?_
  refine l_iconst C d_LW_722 ic_1 ?_
  refine l_iadd C d_LW_723 ?_
  refine l_sld C q1 d_LW_724 ?_
  refine l_aload_n C d_LW_725 rfl 0 rfl ?_
  refine l_iload_n C d_LW_726 rfl 3 rfl ?_
  refine l_iconst C d_LW_727 ic_2 ?_
  refine l_iadd C d_LW_728 ?_
  refine l_sld C q2 d_LW_729 ?_
  refine l_callX (As := [.int (xs (x3 + (1 : Int32)).toNatClampNeg), .int (xs (x3 + (2 : Int32)).toNatClampNeg)]) C jcl_OO cw_LW_111 w_669 w_670 gX rfl rfl (by decide) (by decide) (Nat.le_of_ble_eq_true rfl) d_LW_730 hcs (s_OO_side C.okX rfl gX h) (fun rx IX3 h => ?_)
  refine l_aload_n C d_LW_733 rfl 2 rfl ?_
  refine l_aload_n C d_LW_734 rfl 0 rfl ?_
  refine l_iload_n C d_LW_735 rfl 3 rfl ?_
  refine l_iconst C d_LW_736 ic_1 ?_
  refine l_iadd C d_LW_737 ?_
  refine l_sld C q1 d_LW_738 ?_
  refine l_aload_n C d_LW_739 rfl 0 rfl ?_
  refine l_iload_n C d_LW_740 rfl 3 rfl ?_
  refine l_iconst C d_LW_741 ic_2 ?_
  refine l_iadd C d_LW_742 ?_
  refine l_sld C q2 d_LW_743 ?_
  refine l_callM (As := [.int (xs (x3 + (1 : Int32)).toNatClampNeg), .int (xs (x3 + (2 : Int32)).toNatClampNeg)]) C jcl_MD cw_LW_114 w_1010 w_1011 gM rfl rfl (by decide) (by decide) (Nat.le_of_ble_eq_true rfl) d_LW_744 hcs (s_MD_side C.okM rfl gM h) (fun rm IM3 h => ?_)
  refine l_icmp_eq C d_LW_747 (tgt := 887) (by decide) h.1 ?_
  exact hN _ _ h.2
set_option maxRecDepth 100000 in
set_option maxHeartbeats 4000000 in
theorem lawcase_24 {Z : jZ} {Y : lY} {b L : Nat} {xs : Nat → Int32} {kc ks : Nat} {Q : State → Prop} {Nx : jM → jM → Prop} (C : lC Z Y b L xs) (hcs : kc ≤ 600000 ∧ ks ≤ 7302249) {x3 : Int32} (q1 : vp_in (x3 + (1 : Int32)) L) (q2 : vp_in (x3 + (2 : Int32)) L) (q3 : vp_in (x3 + (3 : Int32)) L) {IX IM : jM} (h : lawN_24 Nx IX IM (xs (x3 + (1 : Int32)).toNatClampNeg) (xs (x3 + (2 : Int32)).toNatClampNeg) (xs (x3 + (3 : Int32)).toNatClampNeg)) (hN : ∀ IX2 IM2, Nx IX2 IM2 → lJ Z Y kc ks Q 887 [(0, .ref b), (1, .ref (Y.2.2 0)), (2, .ref (Y.2.2 100)), (3, .int x3)] [] IX2 IM2) : lJ Z Y kc ks Q 752 [(0, .ref b), (1, .ref (Y.2.2 0)), (2, .ref (Y.2.2 100)), (3, .int x3)] [] IX IM := by
  have gX : jOB (lX Y) 10 0 := ⟨by show 0 ∈ jLX; decide +kernel, by decide +kernel⟩
  have gM : jOB (lM Y) 11 100 := ⟨by show 100 ∈ jLM; decide +kernel, by decide +kernel⟩
  unfold lawN_24 at h
  refine l_aload_n C d_LW_752 rfl 1 rfl ?_
  refine l_aload_n C d_LW_753 rfl 0 rfl ?_
  refine l_iload_n C d_LW_754 rfl 3 rfl ?_
  refine l_iconst C d_LW_755 ic_1 ?_
  refine l_iadd C d_LW_756 ?_
  refine l_sld C q1 d_LW_757 ?_
  refine l_callX (As := [.int (xs (x3 + (1 : Int32)).toNatClampNeg)]) C jcl_OO cw_LW_115 w_674 w_675 gX rfl rfl (by decide) (by decide) (Nat.le_of_ble_eq_true rfl) d_LW_758 hcs (s_OO_solve C.okX rfl gX h) (fun rx IX3 h => ?_)
  refine l_aload_n C d_LW_761 rfl 2 rfl ?_
  refine l_aload_n C d_LW_762 rfl 0 rfl ?_
  refine l_iload_n C d_LW_763 rfl 3 rfl ?_
  refine l_iconst C d_LW_764 ic_1 ?_
  refine l_iadd C d_LW_765 ?_
  refine l_sld C q1 d_LW_766 ?_
  refine l_callM (As := [.int (xs (x3 + (1 : Int32)).toNatClampNeg)]) C jcl_MD cw_LW_118 w_1014 w_1015 gM rfl rfl (by decide) (by decide) (Nat.le_of_ble_eq_true rfl) d_LW_767 hcs (s_MD_solve C.okM rfl gM h) (fun rm IM3 h => ?_)
  refine l_icmp_eq C d_LW_770 (tgt := 887) (by decide) h.1 ?_
  exact hN _ _ h.2
set_option maxRecDepth 100000 in
set_option maxHeartbeats 4000000 in
theorem lawcase_25 {Z : jZ} {Y : lY} {b L : Nat} {xs : Nat → Int32} {kc ks : Nat} {Q : State → Prop} {Nx : jM → jM → Prop} (C : lC Z Y b L xs) (hcs : kc ≤ 600000 ∧ ks ≤ 7302249) {x3 : Int32} (q1 : vp_in (x3 + (1 : Int32)) L) (q2 : vp_in (x3 + (2 : Int32)) L) (q3 : vp_in (x3 + (3 : Int32)) L) {IX IM : jM} (h : lawN_25 Nx IX IM (xs (x3 + (1 : Int32)).toNatClampNeg) (xs (x3 + (2 : Int32)).toNatClampNeg) (xs (x3 + (3 : Int32)).toNatClampNeg)) (hN : ∀ IX2 IM2, Nx IX2 IM2 → lJ Z Y kc ks Q 887 [(0, .ref b), (1, .ref (Y.2.2 0)), (2, .ref (Y.2.2 100)), (3, .int x3)] [] IX2 IM2) : lJ Z Y kc ks Q 775 [(0, .ref b), (1, .ref (Y.2.2 0)), (2, .ref (Y.2.2 100)), (3, .int x3)] [] IX IM := by
  have gX : jOB (lX Y) 10 0 := ⟨by show 0 ∈ jLX; decide +kernel, by decide +kernel⟩
  have gM : jOB (lM Y) 11 100 := ⟨by show 100 ∈ jLM; decide +kernel, by decide +kernel⟩
  unfold lawN_25 at h
  refine l_aload_n C d_LW_775 rfl 1 rfl ?_
  refine l_aload_n C d_LW_776 rfl 0 rfl ?_
  refine l_iload_n C d_LW_777 rfl 3 rfl ?_
  refine l_iconst C d_LW_778 ic_1 ?_
  refine l_iadd C d_LW_779 ?_
  refine l_sld C q1 d_LW_780 ?_
  refine l_aload_n C d_LW_781 rfl 0 rfl ?_
  refine l_iload_n C d_LW_782 rfl 3 rfl ?_
  refine l_iconst C d_LW_783 ic_2 ?_
  refine l_iadd C d_LW_784 ?_
  refine l_sld C q2 d_LW_785 ?_
  refine l_callX (As := [.int (xs (x3 + (1 : Int32)).toNatClampNeg), .int (xs (x3 + (2 : Int32)).toNatClampNeg)]) C jcl_OO cw_LW_119 w_690 w_691 gX rfl rfl (by decide) (by decide) (Nat.le_of_ble_eq_true rfl) d_LW_786 hcs (s_OO_inside C.okX rfl gX h) (fun rx IX3 h => ?_)
  refine l_aload_n C d_LW_789 rfl 2 rfl ?_
  refine l_aload_n C d_LW_790 rfl 0 rfl ?_
  refine l_iload_n C d_LW_791 rfl 3 rfl ?_
  refine l_iconst C d_LW_792 ic_1 ?_
  refine l_iadd C d_LW_793 ?_
  refine l_sld C q1 d_LW_794 ?_
  refine l_aload_n C d_LW_795 rfl 0 rfl ?_
  refine l_iload_n C d_LW_796 rfl 3 rfl ?_
  refine l_iconst C d_LW_797 ic_2 ?_
  refine l_iadd C d_LW_798 ?_
  refine l_sld C q2 d_LW_799 ?_
  refine l_callM (As := [.int (xs (x3 + (1 : Int32)).toNatClampNeg), .int (xs (x3 + (2 : Int32)).toNatClampNeg)]) C jcl_MD cw_LW_122 w_1026 w_1027 gM rfl rfl (by decide) (by decide) (Nat.le_of_ble_eq_true rfl) d_LW_800 hcs (s_MD_inside C.okM rfl gM h) (fun rm IM3 h => ?_)
  refine l_icmp_eq C d_LW_803 (tgt := 887) (by decide) h.1 ?_
  exact hN _ _ h.2
set_option maxRecDepth 100000 in
set_option maxHeartbeats 4000000 in
theorem lawcase_26 {Z : jZ} {Y : lY} {b L : Nat} {xs : Nat → Int32} {kc ks : Nat} {Q : State → Prop} {Nx : jM → jM → Prop} (C : lC Z Y b L xs) (hcs : kc ≤ 600000 ∧ ks ≤ 7302249) {x3 : Int32} (q1 : vp_in (x3 + (1 : Int32)) L) (q2 : vp_in (x3 + (2 : Int32)) L) (q3 : vp_in (x3 + (3 : Int32)) L) {IX IM : jM} (h : lawN_26 Nx IX IM (xs (x3 + (1 : Int32)).toNatClampNeg) (xs (x3 + (2 : Int32)).toNatClampNeg) (xs (x3 + (3 : Int32)).toNatClampNeg)) (hN : ∀ IX2 IM2, Nx IX2 IM2 → lJ Z Y kc ks Q 887 [(0, .ref b), (1, .ref (Y.2.2 0)), (2, .ref (Y.2.2 100)), (3, .int x3)] [] IX2 IM2) : lJ Z Y kc ks Q 808 [(0, .ref b), (1, .ref (Y.2.2 0)), (2, .ref (Y.2.2 100)), (3, .int x3)] [] IX IM := by
  have gX : jOB (lX Y) 10 0 := ⟨by show 0 ∈ jLX; decide +kernel, by decide +kernel⟩
  have gM : jOB (lM Y) 11 100 := ⟨by show 100 ∈ jLM; decide +kernel, by decide +kernel⟩
  unfold lawN_26 at h
  refine l_aload_n C d_LW_808 rfl 1 rfl ?_
  refine l_aload_n C d_LW_809 rfl 0 rfl ?_
  refine l_iload_n C d_LW_810 rfl 3 rfl ?_
  refine l_iconst C d_LW_811 ic_1 ?_
  refine l_iadd C d_LW_812 ?_
  refine l_sld C q1 d_LW_813 ?_
  refine l_callX (As := [.int (xs (x3 + (1 : Int32)).toNatClampNeg)]) C jcl_OO cw_LW_123 w_698 w_699 gX rfl rfl (by decide) (by decide) (Nat.le_of_ble_eq_true rfl) d_LW_814 hcs (s_OO_plan C.okX rfl gX h) (fun rx IX3 h => ?_)
  refine l_aload_n C d_LW_817 rfl 2 rfl ?_
  refine l_aload_n C d_LW_818 rfl 0 rfl ?_
  refine l_iload_n C d_LW_819 rfl 3 rfl ?_
  refine l_iconst C d_LW_820 ic_1 ?_
  refine l_iadd C d_LW_821 ?_
  refine l_sld C q1 d_LW_822 ?_
  refine l_callM (As := [.int (xs (x3 + (1 : Int32)).toNatClampNeg)]) C jcl_MD cw_LW_126 w_1030 w_1031 gM rfl rfl (by decide) (by decide) (Nat.le_of_ble_eq_true rfl) d_LW_823 hcs (s_MD_plan C.okM rfl gM h) (fun rm IM3 h => ?_)
  refine l_icmp_eq C d_LW_826 (tgt := 887) (by decide) h.1 ?_
  exact hN _ _ h.2
set_option maxRecDepth 100000 in
set_option maxHeartbeats 4000000 in
theorem lawcase_27 {Z : jZ} {Y : lY} {b L : Nat} {xs : Nat → Int32} {kc ks : Nat} {Q : State → Prop} {Nx : jM → jM → Prop} (C : lC Z Y b L xs) (hcs : kc ≤ 600000 ∧ ks ≤ 7302249) {x3 : Int32} (q1 : vp_in (x3 + (1 : Int32)) L) (q2 : vp_in (x3 + (2 : Int32)) L) (q3 : vp_in (x3 + (3 : Int32)) L) {IX IM : jM} (h : lawN_27 Nx IX IM (xs (x3 + (1 : Int32)).toNatClampNeg) (xs (x3 + (2 : Int32)).toNatClampNeg) (xs (x3 + (3 : Int32)).toNatClampNeg)) (hN : ∀ IX2 IM2, Nx IX2 IM2 → lJ Z Y kc ks Q 887 [(0, .ref b), (1, .ref (Y.2.2 0)), (2, .ref (Y.2.2 100)), (3, .int x3)] [] IX2 IM2) : lJ Z Y kc ks Q 831 [(0, .ref b), (1, .ref (Y.2.2 0)), (2, .ref (Y.2.2 100)), (3, .int x3)] [] IX IM := by
  have gX : jOB (lX Y) 10 0 := ⟨by show 0 ∈ jLX; decide +kernel, by decide +kernel⟩
  have gM : jOB (lM Y) 11 100 := ⟨by show 100 ∈ jLM; decide +kernel, by decide +kernel⟩
  unfold lawN_27 at h
  refine l_aload_n C d_LW_831 rfl 1 rfl ?_
  refine l_aload_n C d_LW_832 rfl 0 rfl ?_
  refine l_iload_n C d_LW_833 rfl 3 rfl ?_
  refine l_iconst C d_LW_834 ic_1 ?_
  refine l_iadd C d_LW_835 ?_
  refine l_sld C q1 d_LW_836 ?_
  refine l_aload_n C d_LW_837 rfl 0 rfl ?_
  refine l_iload_n C d_LW_838 rfl 3 rfl ?_
  refine l_iconst C d_LW_839 ic_2 ?_
  refine l_iadd C d_LW_840 ?_
  refine l_sld C q2 d_LW_841 ?_
  refine l_callX (As := [.int (xs (x3 + (1 : Int32)).toNatClampNeg), .int (xs (x3 + (2 : Int32)).toNatClampNeg)]) C jcl_OO cw_LW_127 w_712 w_713 gX rfl rfl (by decide) (by decide) (Nat.le_of_ble_eq_true rfl) d_LW_842 hcs (s_OO_round C.okX rfl gX h) (fun rx IX3 h => ?_)
  refine l_aload_n C d_LW_845 rfl 2 rfl ?_
  refine l_aload_n C d_LW_846 rfl 0 rfl ?_
  refine l_iload_n C d_LW_847 rfl 3 rfl ?_
  refine l_iconst C d_LW_848 ic_1 ?_
  refine l_iadd C d_LW_849 ?_
  refine l_sld C q1 d_LW_850 ?_
  refine l_aload_n C d_LW_851 rfl 0 rfl ?_
  refine l_iload_n C d_LW_852 rfl 3 rfl ?_
  refine l_iconst C d_LW_853 ic_2 ?_
  refine l_iadd C d_LW_854 ?_
  refine l_sld C q2 d_LW_855 ?_
  refine l_callM (As := [.int (xs (x3 + (1 : Int32)).toNatClampNeg), .int (xs (x3 + (2 : Int32)).toNatClampNeg)]) C jcl_MD cw_LW_130 w_1042 w_1043 gM rfl rfl (by decide) (by decide) (Nat.le_of_ble_eq_true rfl) d_LW_856 hcs (s_MD_round C.okM rfl gM h) (fun rm IM3 h => ?_)
  refine l_icmp_eq C d_LW_859 (tgt := 887) (by decide) h.1 ?_
  exact hN _ _ h.2
set_option maxRecDepth 100000 in
set_option maxHeartbeats 4000000 in
theorem lawcase_28 {Z : jZ} {Y : lY} {b L : Nat} {xs : Nat → Int32} {kc ks : Nat} {Q : State → Prop} {Nx : jM → jM → Prop} (C : lC Z Y b L xs) (hcs : kc ≤ 600000 ∧ ks ≤ 7302249) {x3 : Int32} (q1 : vp_in (x3 + (1 : Int32)) L) (q2 : vp_in (x3 + (2 : Int32)) L) (q3 : vp_in (x3 + (3 : Int32)) L) {IX IM : jM} (h : lawN_28 Nx IX IM (xs (x3 + (1 : Int32)).toNatClampNeg) (xs (x3 + (2 : Int32)).toNatClampNeg) (xs (x3 + (3 : Int32)).toNatClampNeg)) (hN : ∀ IX2 IM2, Nx IX2 IM2 → lJ Z Y kc ks Q 887 [(0, .ref b), (1, .ref (Y.2.2 0)), (2, .ref (Y.2.2 100)), (3, .int x3)] [] IX2 IM2) : lJ Z Y kc ks Q 864 [(0, .ref b), (1, .ref (Y.2.2 0)), (2, .ref (Y.2.2 100)), (3, .int x3)] [] IX IM := by
  have gX : jOB (lX Y) 10 0 := ⟨by show 0 ∈ jLX; decide +kernel, by decide +kernel⟩
  have gM : jOB (lM Y) 11 100 := ⟨by show 100 ∈ jLM; decide +kernel, by decide +kernel⟩
  unfold lawN_28 at h
  refine l_aload_n C d_LW_864 rfl 1 rfl ?_
  refine l_aload_n C d_LW_865 rfl 0 rfl ?_
  refine l_iload_n C d_LW_866 rfl 3 rfl ?_
  refine l_iconst C d_LW_867 ic_1 ?_
  refine l_iadd C d_LW_868 ?_
  refine l_sld C q1 d_LW_869 ?_
  refine l_callX (As := [.int (xs (x3 + (1 : Int32)).toNatClampNeg)]) C jcl_OO cw_LW_131 w_716 w_717 gX rfl rfl (by decide) (by decide) (Nat.le_of_ble_eq_true rfl) d_LW_870 hcs (s_OO_status C.okX rfl gX h) (fun rx IX2 h => ?_)
  obtain ⟨rfl, h⟩ := h
  refine l_aload_n C d_LW_873 rfl 2 rfl ?_
  refine l_aload_n C d_LW_874 rfl 0 rfl ?_
  refine l_iload_n C d_LW_875 rfl 3 rfl ?_
  refine l_iconst C d_LW_876 ic_1 ?_
  refine l_iadd C d_LW_877 ?_
  refine l_sld C q1 d_LW_878 ?_
  refine l_callM (As := [.int (xs (x3 + (1 : Int32)).toNatClampNeg)]) C jcl_MD cw_LW_134 w_1046 w_1047 gM rfl rfl (by decide) (by decide) (Nat.le_of_ble_eq_true rfl) d_LW_879 hcs (s_MD_status C.okM rfl gM h) (fun rm IM3 h => ?_)
  refine l_icmp_eq C d_LW_882 (tgt := 887) (by decide) h.1 ?_
  exact hN _ _ h.2
