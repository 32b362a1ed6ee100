theorem sw_17 : Cond.classLink "OutOrderLaw" 7 "OutOrder" ∈ jtbl := jtbl_in 17 (by decide +kernel) (by decide +kernel)
theorem sw_18 : Cond.instantiable "OutOrder" 11 ∈ jtbl := jtbl_in 18 (by decide +kernel) (by decide +kernel)
theorem sw_19 : Cond.methodLink "OutOrderLaw" 9 ⟨"OutOrder", "<init>", "()V"⟩ ∈ jtbl := jtbl_in 19 (by decide +kernel) (by decide +kernel)
theorem sw_20 : Cond.instanceMethod ⟨"OutOrder", "<init>", "()V"⟩ ∈ jtbl := jtbl_in 20 (by decide +kernel) (by decide +kernel)
theorem sw_21 : Cond.code ⟨"OutOrder", "<init>", "()V"⟩ prog_1_method_1_code 1 (Option.none : Option Jvm.ClassFile.FieldType) ∈ jtbl := jtbl_in 21 (by decide +kernel) (by decide +kernel)
theorem sw_723 : Cond.classLink "OutOrderLaw" 10 "OutOrderModel" ∈ jtbl := jtbl_in 723 (by decide +kernel) (by decide +kernel)
theorem sw_724 : Cond.instantiable "OutOrderModel" 24 ∈ jtbl := jtbl_in 724 (by decide +kernel) (by decide +kernel)
theorem sw_725 : Cond.methodLink "OutOrderLaw" 12 ⟨"OutOrderModel", "<init>", "()V"⟩ ∈ jtbl := jtbl_in 725 (by decide +kernel) (by decide +kernel)
theorem sw_726 : Cond.instanceMethod ⟨"OutOrderModel", "<init>", "()V"⟩ ∈ jtbl := jtbl_in 726 (by decide +kernel) (by decide +kernel)
theorem sw_727 : Cond.code ⟨"OutOrderModel", "<init>", "()V"⟩ prog_14_method_1_code 1 (Option.none : Option Jvm.ClassFile.FieldType) ∈ jtbl := jtbl_in 727 (by decide +kernel) (by decide +kernel)
/-! THE CLAIM OUT OF ONE WALK OF THE LAW'S BODY. Your part is whole_start (and what it stands on); all else here is the same for every law, but numbers. -/
def R_law : String := "OutOrderLaw"
def lw_P (b : Addr) (xs : List Int32) (args : Array Value) (s : State) : Prop := args = #[.ref b] ∧ s.IntsAt b xs ∧ xs.length ≤ 2048 ∧ (Jvm.Cond.and given_1 narrow_1).before args s = true
def lw_Q (_ : Array Value) (s : State) (o : Outcome) (t : State) : Prop := o = .returned (some (.int 1)) ∧ Framed s o t [] 600000 7302249
def lw_Z (below : List Frame) (a : Array Value) (s : State) : State → Prop := fun t => ∃ o, t.status = .running ∧ Ended t below o ∧ lw_Q a s o t
/-- the law's own end, with 1 on the stack, nothing written that was there before, its room as the claim has it -/
theorem lw_ret {p : Program} {l : Launch} {e : Env} {s : State} {m : MethodId} {below : List Frame} {meth : Method} {c : Code} {b : Nat} (hx : p.tables.exec = Jvm.exec) (hb : c.code = code) (hr : meth.sig.returnType = ret) (hlocks : meth.locks = false) {pc : Nat} {H : Heap} {ls : Array Slot} (hdg : decode code pc = .ok (.ireturn, 1)) : W p l e room_1 s m #[Value.ref b] below meth c H [] 600000 7302249 (lw_Z below #[Value.ref b] s) (F0 m pc ls [.int 1]) := by
  intro T hT X
  obtain ⟨fs, hret, hrun, hended, hW, hframe⟩ := X.leave (v := some (.int 1)) (hlocks := hlocks) (fun h => by rw [hr] at h; cases h)
  have hmeth' : T.vm.method? m = some meth := X.method'
  refine ⟨T.setFrames fs, ?_, .returned (some (.int 1)), hrun, hended, rfl, ⟨_, rfl⟩, hW, hframe⟩
  jvm_step X.here [X.here.top, hx, hb, hdg, hmeth', hr, ret, narrow_b1]
  (try refine ⟨rfl, ?_⟩); (try refine ⟨rfl, ?_⟩)
  first | (intro acts; rw [hret _ acts rfl rfl rfl]) | rw [hret _ _ rfl rfl rfl]
  exact Steps.refl _
/-- what holds at the law's entry: the machine, the code, the tables' words (any of lw_tbl by 'hts w (by decide +kernel)'), the script of L ints xs at the cell b, what the Statement gives of the start (any of its parts by flat_of_before) -/
def lw_At (p : Program) (s : State) (m : MethodId) (meth : Method) (c : Code) (b L : Nat) (xs : Nat → Int32) : Prop :=
  p.tables.exec = Jvm.exec ∧ c.code = code ∧ meth.sig.returnType = ret ∧ c.maxLocals = 4 ∧ s.vm.findClass R_law = some m.cls ∧ (∀ w ∈ lw_tbl, w.before #[Value.ref b] s = true) ∧ va_X b L xs s s.heap ∧ b < s.heap.size ∧ meth.locks = false ∧ (Jvm.Cond.and given_1 narrow_1).before #[Value.ref b] s = true

/-- the array class whose components are int[] -/
theorem over_int {args : Array Value} {s : State} (h : (Cond.arrayOver (.array .int)).before args s = true) : ∃ (comp c : ClassId) (k : Class), s.vm.findClass "[I" = some comp ∧ s.vm.classes[c]? = some k ∧ k.kind = .array comp (.array .int) ∧ s.vm.findClass "[[I" = some c := by
  have h : (Cond.arrayOver (.array .int)).holds args s none s [] = true := h
  simp only [Cond.holds, Cond.value, beq_iff_eq] at h
  have e1 : (FieldType.array .int).toString = "[I" := by decide +kernel
  have e2 : ("[" ++ (FieldType.array .int).toString) = "[[I" := by decide +kernel
  rw [e2, e1] at h
  cases hc : s.vm.findClass "[I" with
  | none => rw [hc] at h; simp at h
  | some comp =>
    rw [hc] at h
    simp only [Option.bind_some, Option.bind_eq_some_iff, Option.map_eq_some_iff] at h
    obtain ⟨c, hi, k, hk, hb⟩ := h
    have hp := (Array.findIdx?_eq_some_iff_getElem.mp hi).2.1
    have hkk : s.vm.classes[c]'(Array.findIdx?_eq_some_iff_getElem.mp hi).1 = k := (Array.getElem?_eq_some_iff.mp hk).2
    rw [hkk] at hp
    cases hkind : k.kind with
    | array component ty =>
      rw [hkind] at hb hp
      simp at hb hp
      exact ⟨comp, c, k, rfl, hk, by rw [hkind, hp, hb.1], hb.2⟩
    | _ => rw [hkind] at hb; simp at hb
set_option maxHeartbeats 4000000 in
set_option maxRecDepth 100000 in
/-- THE LAW, from its entry: a relation R of the two memories that holds of the fresh ones and is kept by all calls is enough -/
theorem start_of {R : jM → jM → Prop} (hR : LawOK R) (h0 : OO_startAnew 0 1 32749 jI0 (fun IX => R IX jI0)) {p : Program} {e : Env} {s : State} {m : MethodId} {below : List Frame} {meth : Method} {c : Code} (l : Launch) {b L : Nat} {xs : Nat → Int32} (hL : L ≤ 2048) (C0 : lw_At p s m meth c b L xs) : W p l e room_1 s m #[Value.ref b] below meth c s.heap [] 0 0 (lw_Z below #[Value.ref b] s) (entryFrame m ([Value.ref b] : List Value).toArray 4) := by
  obtain ⟨hx, hb, hr, hml, hown, hts, hX, hbl, hlocks, hgv⟩ := id C0
  have hj : ∀ w ∈ jtbl, w.before #[Value.ref b] s = true := fun w hw => hts w (List.mem_filter.mp hw).1
  obtain ⟨c0, iS0, hKn0⟩ := u_known (C := "OutOrder$FullNet") (T := jT_FN) (N := 10) (n := 10) hts (fun w hw => (List.mem_filter.mp (jws_FN w hw)).1) (hj _ iw_166)
  obtain ⟨c1, iS1, hKn1⟩ := u_known (C := "OutOrder$Going") (T := jT_GO) (N := 3) (n := 3) hts (fun w hw => (List.mem_filter.mp (jws_GO w hw)).1) (hj _ iw_216)
  obtain ⟨c2, iS2, hKn2⟩ := u_known (C := "OutOrder$Least") (T := jT_LE) (N := 4) (n := 4) hts (fun w hw => (List.mem_filter.mp (jws_LE w hw)).1) (hj _ iw_142)
  obtain ⟨c3, iS3, hKn3⟩ := u_known (C := "OutOrder$Modulus") (T := jT_MO) (N := 1) (n := 1) hts (fun w hw => (List.mem_filter.mp (jws_MO w hw)).1) (hj _ iw_32)
  obtain ⟨c4, iS4, hKn4⟩ := u_known (C := "OutOrder$Net") (T := jT_NE) (N := 3) (n := 3) hts (fun w hw => (List.mem_filter.mp (jws_NE w hw)).1) (hj _ iw_112)
  obtain ⟨c5, iS5, hKn5⟩ := u_known (C := "OutOrder$Plan") (T := jT_PL) (N := 1) (n := 1) hts (fun w hw => (List.mem_filter.mp (jws_PL w hw)).1) (hj _ iw_266)
  obtain ⟨c6, iS6, hKn6⟩ := u_known (C := "OutOrder$Row") (T := jT_RO) (N := 3) (n := 3) hts (fun w hw => (List.mem_filter.mp (jws_RO w hw)).1) (hj _ iw_83)
  obtain ⟨c7, iS7, hKn7⟩ := u_known (C := "OutOrder$Rules") (T := jT_RU) (N := 1) (n := 1) hts (fun w hw => (List.mem_filter.mp (jws_RU w hw)).1) (hj _ iw_106)
  obtain ⟨c8, iS8, hKn8⟩ := u_known (C := "OutOrder$Table") (T := jT_TA) (N := 6) (n := 6) hts (fun w hw => (List.mem_filter.mp (jws_TA w hw)).1) (hj _ iw_26)
  obtain ⟨c9, iS9, hKn9⟩ := u_known (C := "OutOrder$Work") (T := jT_WO) (N := 6) (n := 6) hts (fun w hw => (List.mem_filter.mp (jws_WO w hw)).1) (hj _ iw_236)
  obtain ⟨c10, iS10, hKn10⟩ := u_known (C := "OutOrder") (T := jT_OO) (N := 11) (n := 11) hts (fun w hw => (List.mem_filter.mp (jws_OO w hw)).1) (hj _ sw_18)
  obtain ⟨c11, iS11, hKn11⟩ := u_known (C := "OutOrderModel") (T := jT_MD) (N := 24) (n := 24) hts (fun w hw => (List.mem_filter.mp (jws_MD w hw)).1) (hj _ sw_724)
  obtain ⟨cI, kI, z0, hfI, hkI, hdI⟩ := Cond.arrayClass_spec (hj _ iw_81)
  obtain ⟨cB, kB, z0b, hfB, hkB, hdB⟩ := Cond.arrayClass_spec (hj _ iw_802)
  obtain ⟨comp, cR, kR, hfc, hkR, hdR, hfR⟩ := over_int (hts _ (List.mem_append_right _ (List.mem_of_getElem? (i := 44) (by decide +kernel) : Cond.arrayOver (.array .int) ∈ tables_1)))
  have e1 : ("[" ++ FieldType.int.toString) = "[I" := by decide +kernel
  have ec : comp = cI := by rw [e1] at hfI; exact Option.some.inj (hfc.symm.trans hfI)
  subst ec
  obtain ⟨g, hg⟩ : ∃ g : ClassId × ClassId × ClassId, g = (comp, cB, cR) := ⟨_, rfl⟩
  obtain ⟨D, hKc⟩ : ∃ D : va_G, ∀ (k : Nat) (q : vw_C), jCl[k]? = some q → u_Kn s q.1 q.2.1 q.2.2 (D.1 k) (D.2 k) := by
    refine ⟨(fun k => if k = 0 then c0 else if k = 1 then c1 else if k = 2 then c2 else if k = 3 then c3 else if k = 4 then c4 else if k = 5 then c5 else if k = 6 then c6 else if k = 7 then c7 else if k = 8 then c8 else if k = 9 then c9 else if k = 10 then c10 else c11, fun k => if k = 0 then iS0 else if k = 1 then iS1 else if k = 2 then iS2 else if k = 3 then iS3 else if k = 4 then iS4 else if k = 5 then iS5 else if k = 6 then iS6 else if k = 7 then iS7 else if k = 8 then iS8 else if k = 9 then iS9 else if k = 10 then iS10 else iS11), ?_⟩
    intro k q hq
    match k, hq with
    | 0, hq => cases hq; exact hKn0
    | 1, hq => cases hq; exact hKn1
    | 2, hq => cases hq; exact hKn2
    | 3, hq => cases hq; exact hKn3
    | 4, hq => cases hq; exact hKn4
    | 5, hq => cases hq; exact hKn5
    | 6, hq => cases hq; exact hKn6
    | 7, hq => cases hq; exact hKn7
    | 8, hq => cases hq; exact hKn8
    | 9, hq => cases hq; exact hKn9
    | 10, hq => cases hq; exact hKn10
    | 11, hq => cases hq; exact hKn11
    | k + 12, hq => simp [jCl] at hq
  have hKa : ∀ (k : Nat) (q : ClassId × FieldType), (jtys (D, g, id, []))[k]? = some q → ArrOfT s q.1 q.2 ∧ va_RA s q.1 q.2 := by
    intro k q hq
    rw [hg] at hq
    match k, hq with
    | 0, hq => cases hq; exact ⟨fun n z => ⟨fun k9 hk9 => (by cases hk9), kI, hkI, z0, hdI⟩, hfI⟩
    | 1, hq => cases hq; exact ⟨fun n z => ⟨fun k9 hk9 => (by cases hk9), kB, hkB, z0b, hdB⟩, hfB⟩
    | 2, hq => cases hq; exact ⟨fun n z => ⟨fun k9 hk9 => (by cases hk9), kR, hkR, comp, hdR⟩, by
        show s.vm.findClass ("[" ++ (FieldType.array .int).toString) = some cR
        rw [show ("[" ++ (FieldType.array .int).toString) = "[[I" by decide +kernel]; exact hfR⟩
    | k + 3, hq => simp [jtys] at hq
  have hN : jN s := fun w hw => by
    have h2 := List.all_eq_true.mp jnst_ok w hw
    have h3 := hts w (jnst_in w hw)
    cases w <;> first | exact va_Nw.of rfl h3 | (exfalso; revert h2; simp [jnq])
  have hNm : jNm s := fun w hw => by
    have h2 := List.all_eq_true.mp jnm_ok w hw
    have h3 := hts w (jnm_in w hw)
    cases w <;> first | exact va_Nw.of rfl h3 | (exfalso; revert h2; simp [jnmq])
  have hG : jG g s := by rw [hg]; exact ⟨hfR, ⟨kR, hkR, hdR⟩, kI, z0, hkI, hdI⟩
  clear hg
  have hcK : cK D g s := ⟨⟨hKc, hKa⟩, hN, hNm, hG⟩
  have hA : ∀ q : Nat, s.heap.size ≤ q → (fun q : Nat => s.heap.size ≤ q) q := fun _ h => h
  have hS : va_S (fun q : Nat => s.heap.size ≤ q) s.heap s.heap [] := va_S.rf
  have hP : va_P D jCl [] s.heap := fun k q h => by simp at h
  have hD : va_D (fun q : Nat => s.heap.size ≤ q) [] := ⟨fun i j p q h => by simp at h, fun k q h => by simp at h⟩
  have hl := lv_entry ([.ref b]) (n := 4) (Nat.le_of_ble_eq_true rfl)
  rw [lg_entry_eq]
  generalize (lg_sl ([.ref b]) ++ List.replicate (4 - (lg_sl ([.ref b])).length) Slot.unset).toArray = ls at hl ⊢
  have hl : lv_has ls 4 [(0, .ref b)] := hl
  -- x = new OutOrder()
  refine va_new (ci := 10) (fs := jfp id 0 []) (C := "OutOrder") (T := jT_OO) (N := 11) hx hb hj jws_OO jt_OO jcl_OO.2.2.2.2.2.2.1 hown (hj _ sw_17) (hj _ sw_18) (hj _ w_1) hcK.1 hP hD hS hA rfl (by decide +kernel) (Nat.le_of_ble_eq_true rfl) (Nat.le_of_ble_eq_true rfl) d_LW_0 (fun qx H1 hP1 hD1 hS1 => ?_)
  refine W.widen (k := 1) (n := 11) (by omega) (by omega) ?_
  refine lv_dup hx hb d_LW_3 rfl ?_
  have hqx : va_at D jCl (qx, .inr (jk 0, jfp id 0 [])) H1 := hP1 0 _ rfl
  have hqA : s.heap.size ≤ qx := hD1.2 0 _ rfl
  have hA1 : ∀ z, cA qx H1.size z → s.heap.size ≤ z := fun z hz => by
    rcases hz with rfl | hz
    · exact hqA
    · exact Nat.le_trans hS1.1 hz
  refine va_callv (va_runI (As := []) (rest := [.ref qx]) ⟨hx, hb, hml, hown, hts⟩ (i_OO_0 l D g qx H1.size (fun IX => R IX jI0) h0) (cwI 0 hts (l_good sw_21) rfl rfl rfl (hj _ w_1) (hj _ sw_19) (hj _ sw_20) rfl (by decide +kernel) ⟨Nat.le_of_ble_eq_true rfl, Nat.le_of_ble_eq_true rfl⟩) ⟨fun a U g9 mk q => ?_, fun U hU hW => ⟨rfl, by rw [hU], by rw [hU]; exact hqx, hcK.warm hW⟩⟩ rfl rfl hl.1 rfl (lv_room (Nat.le_of_ble_eq_true rfl)) d_LW_4 ⟨Nat.le_of_ble_eq_true rfl, Nat.le_of_ble_eq_true rfl⟩) hS1 (fun q _ h => hA1 q h) hA1 (fun u t H2 locs2 ht hvm hw hB hz2 hk2 hS2 => ?_)
  · obtain ⟨q0, q2, q3, q4⟩ := q
    exact ⟨q0, q2, q3, cK.same (u := U) (U := U.calling g9 mk a) rfl q4⟩
  obtain ⟨adx, IX⟩ := u
  obtain ⟨hx0, hRX⟩ := hw
  obtain ⟨hPX, hDX⟩ := hB
  rw [ht] at hPX
  have hx0 : adx 0 = qx := hx0
  have hRX : R IX jI0 := hRX
  have hPX : mP D (jworld (D, g, adx, jLX) IX) H2 := hPX
  have hDX : mD (cA qx H1.size) (jworld (D, g, adx, jLX) IX) := hDX
  have hDX2 : ∀ x ∈ jworld (D, g, adx, jLX) IX, s.heap.size ≤ x.1 := fun x hx => hA1 _ (hDX.2 x hx)
  have hltX := hPX.lt
  refine lv_astore_n (lv' := [(1, .ref qx), (0, .ref b)]) hx hb d_LW_7 rfl hl (by decide) rfl (fun ls hl => ?_)
  -- m = new OutOrderModel()
  have hPe : va_P D jCl [] H2 := fun k q h => by simp at h
  refine va_new (ci := 11) (fs := jfp id 100 []) (C := "OutOrderModel") (T := jT_MD) (N := 24) hx hb hj jws_MD jt_MD jcl_MD.2.2.2.2.2.2.1 hown (hj _ sw_723) (hj _ sw_724) (hj _ w_12) hcK.1 hPX.to (mD.to (A := fun q : Nat => s.heap.size ≤ q) ⟨hDX.1, hDX2⟩) hS2 hA rfl (by decide +kernel) (Nat.le_of_ble_eq_true rfl) (Nat.le_of_ble_eq_true rfl) d_LW_8 (fun qm H3 hP3 hD3 hS3 => ?_)
  refine lv_dup hx hb d_LW_11 rfl ?_
  have hP3m := mP.of hP3
  have hD3m := mD.of hD3
  have hqm : va_at D jCl (qm, .inr (jk 100, jfp id 100 [])) H3 := hP3m _ (List.mem_append_right _ List.mem_cons_self)
  have hqB : s.heap.size ≤ qm := hD3m.2 (qm, .inr (jk 100, jfp id 100 [])) (List.mem_append_right _ List.mem_cons_self)
  have hnd := hD3m.1
  rw [List.map_append, List.nodup_append] at hnd
  have hne : ∀ x ∈ jworld (D, g, adx, jLX) IX, x.1 ≠ qm := fun x hx e => hnd.2.2 x.1 (List.mem_map.mpr ⟨x, hx, rfl⟩) qm (by simp) e
  have hPX3 : mP D (jworld (D, g, adx, jLX) IX) H3 := hP3m.sub (fun x hx => List.mem_append_left _ hx)
  have hA3 : ∀ z, cA qm H3.size z → s.heap.size ≤ z := fun z hz => by
    rcases hz with rfl | hz
    · exact hqB
    · exact Nat.le_trans hS3.1 hz
  refine va_callv (va_runI (As := []) (rest := [.ref qm]) ⟨hx, hb, hml, hown, hts⟩ (i_MD_100 l D g qm H3.size) (cwI 0 hts (l_good sw_727) rfl rfl rfl (hj _ w_12) (hj _ sw_725) (hj _ sw_726) rfl (by decide +kernel) ⟨Nat.le_of_ble_eq_true rfl, Nat.le_of_ble_eq_true rfl⟩) ⟨fun a U g9 mk q => ?_, fun U hU hW => ⟨rfl, by rw [hU], by rw [hU]; exact hqm, hcK.warm hW⟩⟩ rfl rfl hl.1 rfl (lv_room (Nat.le_of_ble_eq_true rfl)) d_LW_12 ⟨Nat.le_of_ble_eq_true rfl, Nat.le_of_ble_eq_true rfl⟩) hS3 (fun q _ h => hA3 q h) hA3 (fun adm t4 H4 locs4 ht4 hvm4 hm0 hB4 hz4 hk4 hS4 => ?_)
  · obtain ⟨q0, q2, q3, q4⟩ := q
    exact ⟨q0, q2, q3, cK.same (u := U) (U := U.calling g9 mk a) rfl q4⟩
  obtain ⟨hPM, hDM⟩ := hB4
  rw [ht4] at hPM
  have hm0 : adm 100 = qm := hm0
  have hPM : mP D (jworld (D, g, adm, [100, 101, 102, 103, 104, 105, 106, 107, 108, 109, 110, 111, 112, 113, 114, 115, 116, 117]) jI0) H4 := hPM
  have hDM : mD (cA qm H3.size) (jworld (D, g, adm, [100, 101, 102, 103, 104, 105, 106, 107, 108, 109, 110, 111, 112, 113, 114, 115, 116, 117]) jI0) := hDM
  have eLM : ([100, 101, 102, 103, 104, 105, 106, 107, 108, 109, 110, 111, 112, 113, 114, 115, 116, 117] : List Nat) = jLM := by decide +kernel
  rw [eLM] at hPM hDM
  have hPX4 : mP D (jworld (D, g, adx, jLX) IX) H4 := mP.of (hPX3.to.kept (fun k9 x9 hx9 => hk4 _ ((hPX3.to k9 x9 hx9).lt) (fun hc => by
    rcases hc with hc | hc
    · exact hne x9 (List.mem_of_getElem? hx9) hc
    · have := (hPX3.to k9 x9 hx9).lt; omega)))
  -- one table of addresses
  obtain ⟨ad, had⟩ : ∃ ad : Nat → Nat, ad = fun j => if j < 100 then adx j else adm j := ⟨_, rfl⟩
  have hlx : ∀ j ∈ jLX, j < 100 := by decide +kernel
  have hlm : ∀ j ∈ jLM, ¬ j < 100 := by decide +kernel
  have eX : ∀ j ∈ jLX, ad j = adx j := fun j hj => by rw [had]; exact if_pos (hlx j hj)
  have eM : ∀ j ∈ jLM, ad j = adm j := fun j hj => by rw [had]; exact if_neg (hlm j hj)
  have wX : jworld (D, g, ad, jLX) IX = jworld (D, g, adx, jLX) IX := jworld_ad (by unfold jclo; decide +kernel) eX IX
  have wM : jworld (D, g, ad, jLM) jI0 = jworld (D, g, adm, jLM) jI0 := jworld_ad (by unfold jclo; decide +kernel) eM jI0
  have fX : (jworld (D, g, adx, jLX) IX).map Prod.fst = jLX.map adx := by unfold jworld; rw [List.map_map]; rfl
  have fM : (jworld (D, g, adm, jLM) jI0).map Prod.fst = jLM.map adm := by unfold jworld; rw [List.map_map]; rfl
  have okX : jOK (D, g, ad, jLX) := ⟨by show jLX.Nodup; decide +kernel, fun i hi j hj e => by
    have e : ad i = ad j := e
    rw [eX i hi, eX j hj] at e
    exact nodup_inj (fX ▸ hDX.1) hi hj e⟩
  have okM : jOK (D, g, ad, jLM) := ⟨by show jLM.Nodup; decide +kernel, fun i hi j hj e => by
    have e : ad i = ad j := e
    rw [eM i hi, eM j hj] at e
    exact nodup_inj (fM ▸ hDM.1) hi hj e⟩
  have mX : ∀ i ∈ jLX, (adx i, jcell g adx i IX) ∈ jworld (D, g, adx, jLX) IX := fun i hi => List.mem_map.mpr ⟨i, hi, rfl⟩
  have mM : ∀ i ∈ jLM, (adm i, jcell g adm i jI0) ∈ jworld (D, g, adm, jLM) jI0 := fun i hi => List.mem_map.mpr ⟨i, hi, rfl⟩
  have hap : ∀ i ∈ jLX, ∀ j ∈ jLM, ad i ≠ ad j := fun i hi j hj e => by
    rw [eX i hi, eM j hj] at e
    rcases hDM.2 _ (mM j hj) with hc | hc
    · exact hne _ (mX i hi) (e.trans hc)
    · have h9 : adx i < H3.size := hPX3.lt _ (mX i hi)
      have h8 : H3.size ≤ adm j := hc
      omega
  have hhi : ∀ i, i ∈ jLX ∨ i ∈ jLM → s.heap.size ≤ ad i := fun i hi => by
    rcases hi with hi | hi
    · rw [eX i hi]; exact hDX2 _ (mX i hi)
    · rw [eM i hi]; exact hA3 _ (hDM.2 _ (mM i hi))
  rw [← wX] at hPX4
  rw [← wM] at hPM
  have ex0 : ad 0 = qx := (eX 0 (by decide +kernel)).trans hx0
  have em0 : ad 100 = qm := (eM 100 (by decide +kernel)).trans hm0
  obtain ⟨Z, hZ⟩ : ∃ Z : jZ, Z = (p, l, e, room_1, s, m, #[Value.ref b], below, meth, c) := ⟨_, rfl⟩
  obtain ⟨Y, hY⟩ : ∃ Y : lY, Y = (D, g, ad) := ⟨_, rfl⟩
  have CL : lC Z Y b L xs := by
    rw [hZ, hY]
    exact ⟨hx, hb, hr, hml, hown, hts, hX, hbl, hlocks, hcK.1, hN, okX, okM, hap, hhi, rfl⟩
  refine W.widen (k := 118) (n := 16789) (by omega) (by omega) ?_
  refine lv_astore_n (lv' := [(2, .ref qm), (1, .ref qx), (0, .ref b)]) hx hb d_LW_15 rfl hl (by decide) rfl (fun ls hl => ?_)
  refine lv_iconst (v := 0) hx hb d_LW_16 (by decide) ?_
  refine lv_istore_n (lv' := [(3, .int 0), (2, .ref qm), (1, .ref qx), (0, .ref b)]) hx hb d_LW_17 rfl hl (by decide) rfl (fun ls hl => ?_)
  have hend : ∀ (x3 : Int32) (IX IM : jM), lJ Z Y 118 16789 (lw_Z below #[Value.ref b] s) 893 [(0, .ref b), (1, .ref (Y.2.2 0)), (2, .ref (Y.2.2 100)), (3, .int x3)] [] IX IM := by
    intro x3 IX9 IM9 ls9 H9 locs9 hl9 hP9 hM9 hS9
    subst hZ
    refine lv_iconst (v := 1) hx hb d_LW_893 (by decide) ?_
    refine va_forget (fun q hq => hS9.2.2 q hq) ?_
    refine W.widen (k := 600000) (n := 7302249) (by omega) (by omega) ?_
    exact lw_ret hx hb hr hlocks d_LW_894
  have key := law_loop CL hL (by decide) hR hend (L + 4) 0 0 (by omega) (Nat.zero_le L) nI_0.symm IX jI0 hRX
  subst hZ
  subst hY
  refine key ls H4 _ (lv_sub hl [3, 2, 1, 0] (by
    show [(0, Value.ref b), (1, Value.ref qx), (2, Value.ref qm), (3, Value.int 0)] = [(0, Value.ref b), (1, Value.ref (ad 0)), (2, Value.ref (ad 100)), (3, Value.int 0)]
    rw [ex0, em0])) hPX4.to hPM.to hS4
