theorem cC.x {Z D g A cc own fR lR mc ms} (C : cC Z D g A cc own fR lR mc ms) : (jZp Z).tables.exec = Jvm.exec := C.1
theorem cC.b {Z D g A cc own fR lR mc ms} (C : cC Z D g A cc own fR lR mc ms) : (jZc Z).code = cc := C.2.1
theorem cC.ml {Z D g A cc own fR lR mc ms} (C : cC Z D g A cc own fR lR mc ms) : (jZc Z).maxLocals = 1 := C.2.2.1
theorem cC.own {Z D g A cc own fR lR mc ms} (C : cC Z D g A cc own fR lR mc ms) : (jZs Z).vm.findClass own = some (jZm Z).cls := C.2.2.2.1
theorem cC.ts {Z D g A cc own fR lR mc ms} (C : cC Z D g A cc own fR lR mc ms) : ∀ w ∈ jtbl, w.before (jZa Z) (jZs Z) = true := C.2.2.2.2.1
theorem cC.K {Z D g A cc own fR lR mc ms} (C : cC Z D g A cc own fR lR mc ms) : cK D g (jZs Z) := C.2.2.2.2.2.1
theorem cC.nm {Z D g A cc own fR lR mc ms} (C : cC Z D g A cc own fR lR mc ms) : (jZh Z).name = "<init>" := C.2.2.2.2.2.2.1
theorem cC.lk {Z D g A cc own fR lR mc ms} (C : cC Z D g A cc own fR lR mc ms) : (jZh Z).locks = false := C.2.2.2.2.2.2.2.1
theorem cC.fr {Z D g A cc own fR lR mc ms} (C : cC Z D g A cc own fR lR mc ms) : fR ≤ (jZR Z).frames := C.2.2.2.2.2.2.2.2.1
theorem cC.lo {Z D g A cc own fR lR mc ms} (C : cC Z D g A cc own fR lR mc ms) : lR ≤ (jZR Z).locals := C.2.2.2.2.2.2.2.2.2.1
theorem cC.ce {Z D g A cc own fR lR mc ms} (C : cC Z D g A cc own fR lR mc ms) : mc ≤ (jZR Z).cells := C.2.2.2.2.2.2.2.2.2.2.1
theorem cC.sl {Z D g A cc own fR lR mc ms} (C : cC Z D g A cc own fR lR mc ms) : ms ≤ (jZR Z).slots := C.2.2.2.2.2.2.2.2.2.2.2.1
theorem cC.hA {Z D g A cc own fR lR mc ms} (C : cC Z D g A cc own fR lR mc ms) : ∀ q, (jZs Z).heap.size ≤ q → A q := C.2.2.2.2.2.2.2.2.2.2.2.2.1
theorem cC.r {Z D g A cc own fR lR mc ms} (C : cC Z D g A cc own fR lR mc ms) : (jZh Z).sig.returnType = none := C.2.2.2.2.2.2.2.2.2.2.2.2.2
theorem mP.grow {D : va_G} {ws : va_W} {H H1 : Heap} (h : mP D ws H) (ho : ∀ q : Nat, q < H.size → H1[q]? = H[q]?) : mP D ws H1 := mP.of (h.to.kept (fun k x hx => ho _ ((h.to k x hx).lt)))
theorem mD.app {A : Nat → Prop} {ws nw : va_W} {B : Nat} (h : mD A ws) (hl : ∀ x ∈ ws, x.1 < B) (hn : (nw.map Prod.fst).Nodup) (hg : ∀ x ∈ nw, B ≤ x.1) (hA : ∀ x ∈ nw, A x.1) : mD A (ws ++ nw) := by
  refine ⟨?_, fun x hx => ?_⟩
  · rw [List.map_append, List.nodup_append]
    refine ⟨h.1, hn, fun a ha b hb e => ?_⟩
    obtain ⟨x, hx, rfl⟩ := List.mem_map.mp ha
    obtain ⟨y, hy, rfl⟩ := List.mem_map.mp hb
    have := hl x hx
    have := hg y hy
    omega
  · rcases List.mem_append.mp hx with h1 | h1
    · exact h.2 x h1
    · exact hA x h1
theorem mP.lt {D : va_G} {ws : va_W} {H : Heap} (h : mP D ws H) : ∀ x ∈ ws, x.1 < H.size := fun x hx => (h x hx).lt
section CR
variable {Z : jZ} {D : va_G} {g : ClassId × ClassId × ClassId} {A : Nat → Prop} {cc : ByteArray} {own : String} {fR lR mc ms kc ks : Nat} {Q : State → Prop} {pc r h0 : Nat} {done : List Nat} {xt : va_W} {ad : Nat → Nat} {Ls : List Nat} {st : List Value}
theorem c_grow (C : cC Z D g A cc own fR lR mc ms) {H H1 : Heap} {locs : List Loc} {ad' : Nat → Nat} {Lc : List Nat} (hP : mP D (cw g D r h0 done xt ad Ls) H) (hD : mD A (cw g D r h0 done xt ad Ls)) (hS : va_S A (jZs Z).heap H locs) (hcl : jclo Ls) (hdn : ∀ k ∈ done, jq (jk r) k = true → jr r k ∈ Ls) (ha : ∀ j ∈ Ls, ad' j = ad j) (hz : H.size ≤ H1.size) (ho : ∀ q : Nat, q < H.size → H1[q]? = H[q]?) (hn : ∀ j ∈ Lc, H.size ≤ ad' j) (hinj : (Lc.map ad').Nodup) (hat : ∀ j ∈ Lc, va_at D jCl (ad' j, jcell g ad' j jI0) H1) : mP D (cw g D r h0 done xt ad' (Ls ++ Lc)) H1 ∧ mD A (cw g D r h0 done xt ad' (Ls ++ Lc)) ∧ va_S A (jZs Z).heap H1 locs := by
  have e : cw g D r h0 done xt ad' (Ls ++ Lc) = cw g D r h0 done xt ad Ls ++ jworld (D, g, ad', Lc) jI0 := by
    unfold cw
    rw [jworld_app, jworld_ad hcl ha, jfp_ad hdn ha, ← List.append_assoc, List.cons_append]
  have hnw : ∀ x ∈ jworld (D, g, ad', Lc) jI0, ∃ j ∈ Lc, x = (ad' j, jcell g ad' j jI0) := fun x hx => by
    obtain ⟨j, hj, rfl⟩ := List.mem_map.mp hx
    exact ⟨j, hj, rfl⟩
  rw [e]
  refine ⟨fun x hx => ?_, hD.app (B := H.size) hP.lt ?_ (fun x hx => ?_) (fun x hx => ?_), ⟨Nat.le_trans hS.1 hz, fun x h1 h2 => (ho x (Nat.lt_of_lt_of_le h1 hS.1)).trans (hS.2.1 x h1 h2), hS.2.2⟩⟩
  · rcases List.mem_append.mp hx with h1 | h1
    · exact hP.grow ho x h1
    · obtain ⟨j, hj, rfl⟩ := hnw x h1
      exact hat j hj
  · have e2 : (jworld (D, g, ad', Lc) jI0).map Prod.fst = Lc.map ad' := by
      unfold jworld; rw [List.map_map]; rfl
    rw [e2]; exact hinj
  · obtain ⟨j, hj, rfl⟩ := hnw x hx
    exact hn j hj
  · obtain ⟨j, hj, rfl⟩ := hnw x hx
    exact C.hA _ (Nat.le_trans hS.1 (hn j hj))
theorem c_aload (C : cC Z D g A cc own fR lR mc ms) (d : decode cc pc = .ok (.aload_n 0, 1)) (h : cJ Z D g A kc ks Q (pc + 1) r h0 done xt ad Ls (.ref h0 :: st)) : cJ Z D g A kc ks Q pc r h0 done xt ad Ls st := fun ls H locs hl hP hD hS => lv_aload_n C.x C.b d rfl (lv_at hl 0 rfl) (h ls H locs hl hP hD hS)
theorem c_iconst (C : cC Z D g A cc own fR lR mc ms) {n : Int} {v : Int32} (d : decode cc pc = .ok (.iconst n, 1)) (hv : Int32.ofInt n = v) (h : cJ Z D g A kc ks Q (pc + 1) r h0 done xt ad Ls (.int v :: st)) : cJ Z D g A kc ks Q pc r h0 done xt ad Ls st := fun ls H locs hl hP hD hS => lv_iconst C.x C.b d hv (h ls H locs hl hP hD hS)
theorem c_bipush (C : cC Z D g A cc own fR lR mc ms) {n : Int} {v : Int32} (d : decode cc pc = .ok (.bipush n, 2)) (hv : (Int8.ofInt n).toInt32 = v) (h : cJ Z D g A kc ks Q (pc + 2) r h0 done xt ad Ls (.int v :: st)) : cJ Z D g A kc ks Q pc r h0 done xt ad Ls st := fun ls H locs hl hP hD hS => lv_bipush C.x C.b d hv (h ls H locs hl hP hD hS)
theorem c_sipush (C : cC Z D g A cc own fR lR mc ms) {n : Int} {v : Int32} (d : decode cc pc = .ok (.sipush n, 3)) (hv : (Int16.ofInt n).toInt32 = v) (h : cJ Z D g A kc ks Q (pc + 3) r h0 done xt ad Ls (.int v :: st)) : cJ Z D g A kc ks Q pc r h0 done xt ad Ls st := fun ls H locs hl hP hD hS => lv_sipush C.x C.b d hv (h ls H locs hl hP hD hS)
theorem c_obj (C : cC Z D g A cc own fR lR mc ms) {idx : Nat} (w1 : Cond.methodLink own idx objectInit ∈ jtbl) (w2 : Cond.instanceMethod objectInit ∈ jtbl) (w3 : Cond.code objectInit ⟨#[0xb1]⟩ 1 none ∈ jtbl) (hf : 1 ≤ fR) (hl0 : (st.map fun v => v.category).sum + 12 ≤ lR) (d : decode cc pc = .ok (.invokespecial idx, 3)) (h : cJ Z D g A kc ks Q (pc + 3) r h0 done xt ad Ls st) : cJ Z D g A kc ks Q pc r h0 done xt ad Ls (.ref h0 :: st) := fun ls H locs hl hP hD hS => W.objInit C.x C.b C.own (C.ts _ w1) (C.ts _ w2) (C.ts _ w3) rfl (hl.1.trans C.ml.symm) rfl d (Nat.le_trans hf C.fr) (by show 2 * 0 + _ + 12 ≤ _; have := C.lo; omega) (W.eq (g2 := F0 (jZm Z) (pc + 3) ls st) rfl (h ls H locs hl hP hD hS))
theorem c_newA (C : cC Z D g A cc own fR lR mc ms) {i n : Nat} {v : Int32} {at0 : ArrayType} {ty : FieldType} {gc : ClassId} {t0 : Nat} (hty : newarray.typeOf at0 = ty) (hg : (jtys (D, g, id, []))[t0]? = some (gc, ty)) (hra : ∀ U, va_RA U gc ty = (U.vm.findClass ("[" ++ ty.toString) = some gc)) (hce : ∀ ad', jcell g ad' i jI0 = .inl (gc, n, .inl (fun _ => 0))) (hdv : defaultValue ty = .int 0) (hby : n * componentBytes ty ≤ 536870912) (hv : v.toNatClampNeg = n) (hv0 : ¬ v < 0) (hi : i ∉ Ls) (hcl : jclo Ls) (hdn : ∀ k ∈ done, jq (jk r) k = true → jr r k ∈ Ls) (wA : Cond.arrayClass ty ∈ jtbl) (hc : kc + 1 ≤ mc) (hs : ks + n ≤ ms) (d : decode cc pc = .ok (.newarray at0, 2)) (h : ∀ ad' : Nat → Nat, (∀ j ∈ Ls, ad' j = ad j) → cJ Z D g A (kc + 1) (ks + n) Q (pc + 2) r h0 done xt ad' (Ls ++ [i]) (.ref (ad' i) :: st)) : cJ Z D g A kc ks Q pc r h0 done xt ad Ls (.int v :: st) := fun ls H locs hl hP hD hS => by
  subst hty
  refine va_newaK C.x C.b (C.ts _ wA) (g := F0 (jZm Z) pc ls (.int v :: st)) rfl d rfl hv0 hv hby (Nat.le_trans hc C.ce) (Nat.le_trans hs C.sl) (h := H.size) rfl (fun H1 cN e1 z1 o1 hAr hNm => ?_)
  have hr0 := (C.K.1.2 t0 _ hg).2
  rw [hra] at hr0
  have ec : cN = gc := Option.some.inj (hNm.symm.trans hr0)
  subst ec
  have ha : ∀ j ∈ Ls, va_up ad i H.size j = ad j := fun j hj => if_neg (fun (e : j = i) => hi (e ▸ hj))
  have hii : va_up ad i H.size i = H.size := if_pos rfl
  obtain ⟨hP1, hD1, hS1⟩ := c_grow C (ad' := va_up ad i H.size) (Lc := [i]) (H1 := H1) hP hD hS hcl hdn ha (by omega) o1 (fun j hj => by rw [List.mem_singleton.mp hj, hii]; exact Nat.le_refl _) (by simp) (fun j hj => by
    rw [List.mem_singleton.mp hj, hii, hce]
    show H1[H.size]? = some (vp_cell _ _)
    rw [e1, vp_cell_i, hdv])
  have k := h _ ha ls H1 locs hl hP1 hD1 hS1
  rw [hii] at k
  exact k
theorem c_putR (C : cC Z D g A cc own fR lR mc ms) {ci : Nat} {F : u_T} {N : Nat} {ty : Nat → FieldType} (hc : jcl ci own F N ty) (hr : jk r = ci) {k idx i : Nat} (hk : k < N) (hq : jq ci k = true) (hi : jr r k = i) (hF : (F k).1 = own) (hfin : (F k).2.2.2 = true) (hw : Cond.fieldLink own idx own (F k).2.1 (F k).2.2.1 ∈ jtbl) (hn : ∀ q, narrow (ty k) (.ref q) = .ref q) (hf : ∀ q, fits (ty k) (.ref q) = true) (d : decode cc pc = .ok (.putfield idx, 3)) (h : cJ Z D g A kc ks Q (pc + 3) r h0 (k :: done) xt ad Ls st) : cJ Z D g A kc ks Q pc r h0 done xt ad Ls (.ref (ad i) :: .ref h0 :: st) := fun ls H locs hl hP hD hS => by
  subst hr
  have hkn : k < jn (jk r) := hc.2.1 ▸ hk
  refine va_putF (D := D) (ci := jk r) (v := .ref (ad i)) (ty := ty k) C.x C.b C.ts hc.2.2.2.2.2.1 ty hc.2.2.2.2.2.2.1 hc.2.2.2.2.2.2.2 C.own C.K.1 hP.to hD.to hS 0 rfl hc.1 k hk (C.ts _ hw) (fun x hx => hF ▸ hx) hfin C.nm hF (hc.2.2.2.2.2.2.1 k hk) (hn _) (hf _) (by rw [jfp_len]; exact hkn) d (fun H1 locs1 hP1 hD1 hS1 => ?_)
  have e : (cw g D r h0 done xt ad Ls).set 0 (h0, .inr (jk r, (jfp ad r done).set k (.ref (ad i)))) = cw g D r h0 (k :: done) xt ad Ls := by
    rw [jfp_set hkn (by rw [if_pos hq, hi])]; rfl
  rw [e] at hP1 hD1
  exact h ls H1 locs1 hl (mP.of hP1) (mD.of hD1) hS1
theorem c_putI (C : cC Z D g A cc own fR lR mc ms) {ci : Nat} {F : u_T} {N : Nat} {ty : Nat → FieldType} (hc : jcl ci own F N ty) (hr : jk r = ci) {k idx : Nat} {v : Int32} (hk : k < N) (hq : jq ci k = false) (hv : jI0 r k = v) (hF : (F k).1 = own) (hfin : (F k).2.2.2 = false) (hw : Cond.fieldLink own idx own (F k).2.1 (F k).2.2.1 ∈ jtbl) (hn : narrow (ty k) (.int v) = .int v) (hf : fits (ty k) (.int v) = true) (d : decode cc pc = .ok (.putfield idx, 3)) (h : cJ Z D g A kc ks Q (pc + 3) r h0 (k :: done) xt ad Ls st) : cJ Z D g A kc ks Q pc r h0 done xt ad Ls (.int v :: .ref h0 :: st) := fun ls H locs hl hP hD hS => by
  subst hr
  have hkn : k < jn (jk r) := hc.2.1 ▸ hk
  refine va_put (D := D) (ci := jk r) (v := .int v) (ty := ty k) C.x C.b C.ts hc.2.2.2.2.2.1 ty hc.2.2.2.2.2.2.1 hc.2.2.2.2.2.2.2 C.own C.K.1 hP.to hD.to hS 0 rfl hc.1 k hk (C.ts _ hw) (fun x hx => hF ▸ hx) hfin (hc.2.2.2.2.2.2.1 k hk) hn hf (by rw [jfp_len]; exact hkn) d (fun H1 locs1 hP1 hD1 hS1 => ?_)
  have e : (cw g D r h0 done xt ad Ls).set 0 (h0, .inr (jk r, (jfp ad r done).set k (.int v))) = cw g D r h0 (k :: done) xt ad Ls := by
    rw [jfp_set hkn (by rw [hq, hv]; rfl)]; rfl
  rw [e] at hP1 hD1
  exact h ls H1 locs1 hl (mP.of hP1) (mD.of hD1) hS1
theorem c_multi (C : cC Z D g A cc own fR lR mc ms) {i n k : Nat} {a b : Int32} {idx : Nat} (ha : a.toNatClampNeg = n) (hb : b.toNatClampNeg = k) (ha0 : ¬ a < 0) (hb0 : ¬ b < 0) (hn : n ≤ 1000) (hk : k ≤ 1000) (hki : jk i = 1002) (hli : jl i = n) (hjw : ∀ j, jw i j = i + 1 + j) (hrow : ∀ j, j < n → jk (i + 1 + j) = 1000 ∧ jl (i + 1 + j) = k) (hz0 : ∀ j, j < n → jI0 (i + 1 + j) = fun _ => 0) (hfr : ∀ j ∈ Ls, j < i ∨ i + n < j) (hcl : jclo Ls) (hdn : ∀ k ∈ done, jq (jk r) k = true → jr r k ∈ Ls) (wC : Cond.classLink own idx "[[I" ∈ jtbl) (hc : kc + (1 + n) ≤ mc) (hs : ks + (n + n * k) ≤ ms) (d : decode cc pc = .ok (.multianewarray idx 2, 4))
    (h : ∀ ad' : Nat → Nat, (∀ j ∈ Ls, ad' j = ad j) → cJ Z D g A (kc + 1 + n) (ks + n + n * k) Q (pc + 4) r h0 done xt ad' (Ls ++ (List.range (n + 1)).map (fun j => i + j)) (.ref (ad' i) :: st)) : cJ Z D g A kc ks Q pc r h0 done xt ad Ls (.int b :: .int a :: st) := fun ls H locs hl hP hD hS => by
  subst ha
  subst hb
  obtain ⟨hG1, ⟨kA, hG2, hG3⟩, kI, c0, hG4, hG5⟩ := C.K.2.2.2
  intro T hT X
  obtain ⟨vm1, X1, step⟩ := ma_step X C.x C.own (C.ts _ wC) hG1 hG2 hG3 hG4 hG5 (g := F0 (jZm Z) pc ls (.int b :: .int a :: st)) rfl (by rw [C.b]; exact d) rfl ha0 hb0 hn hk (Nat.le_trans hc C.ce) (Nat.le_trans hs C.sl)
  have hTH : (T.setVm vm1).heap = H := hT
  have hz := ma_size (T.setVm vm1) g.2.2 g.1 a.toNatClampNeg b.toNatClampNeg a.toNatClampNeg
  have hlow : ∀ q : Nat, q < H.size → (ma_S (T.setVm vm1) g.2.2 g.1 a.toNatClampNeg b.toNatClampNeg a.toNatClampNeg).heap[q]? = H[q]? := fun q hq => by
    rw [ma_below (T.setVm vm1) _ _ _ _ (by rw [hTH]; exact hq), hTH]
  have hout := ma_outer (T.setVm vm1) g.2.2 g.1 a.toNatClampNeg b.toNatClampNeg a.toNatClampNeg
  have hrw : ∀ j, j < a.toNatClampNeg → (ma_S (T.setVm vm1) g.2.2 g.1 a.toNatClampNeg b.toNatClampNeg a.toNatClampNeg).heap[H.size + 1 + j]? = some (ma_z g.1 b.toNatClampNeg) := fun j hj => by
    have := ma_row (T.setVm vm1) g.2.2 g.1 a.toNatClampNeg b.toNatClampNeg a.toNatClampNeg j hj
    rw [hTH] at this
    exact this
  rw [hTH] at hout hz
  generalize hU : ma_S (T.setVm vm1) g.2.2 g.1 a.toNatClampNeg b.toNatClampNeg a.toNatClampNeg = U at X1 step hz hlow hout hrw
  obtain ⟨ad', had⟩ : ∃ ad' : Nat → Nat, ad' = fun c => if i ≤ c ∧ c ≤ i + a.toNatClampNeg then H.size + (c - i) else ad c := ⟨_, rfl⟩
  have ha1 : ∀ j ∈ Ls, ad' j = ad j := fun j hj => by
    rw [had]; exact if_neg (by have := hfr j hj; omega)
  have ha2 : ∀ j, j ≤ a.toNatClampNeg → ad' (i + j) = H.size + j := fun j hj => by
    rw [had]
    show (if i ≤ i + j ∧ i + j ≤ i + a.toNatClampNeg then H.size + (i + j - i) else ad (i + j)) = _
    rw [if_pos (by omega), Nat.add_sub_cancel_left]
  have hii : ad' i = H.size := ha2 0 (Nat.zero_le _)
  obtain ⟨hP1, hD1, hS1⟩ := c_grow C (ad' := ad') (Lc := (List.range (a.toNatClampNeg + 1)).map (fun j => i + j)) (H1 := U.heap) hP hD hS hcl hdn ha1 (by omega) hlow (fun j hj => by
      obtain ⟨m, hm, rfl⟩ := List.mem_map.mp hj
      rw [ha2 m (by have := List.mem_range.mp hm; omega)]; omega) (by
      rw [List.map_map, List.nodup_iff_pairwise_ne, List.pairwise_iff_getElem]
      intro x y hx hy hxy e
      rw [List.length_map, List.length_range] at hx hy
      rw [List.getElem_map, List.getElem_map, List.getElem_range, List.getElem_range] at e
      have e2 : ad' (i + x) = ad' (i + y) := e
      rw [ha2 x (by omega), ha2 y (by omega)] at e2
      omega) (fun j hj => by
      obtain ⟨m, hm, rfl⟩ := List.mem_map.mp hj
      have hm2 := List.mem_range.mp hm
      rw [ha2 m (by omega)]
      cases m with
      | zero =>
        show va_at D jCl (H.size, jcell g ad' i jI0) U.heap
        rw [jcell_arr hki, hli]
        show U.heap[H.size]? = some (vp_cell _ _)
        rw [hout, vp_cell_q]
        unfold ma_o
        congr 2
        funext j
        unfold ma_f
        by_cases hj : j < a.toNatClampNeg
        · rw [if_pos hj, if_pos hj, hjw, show i + 1 + j = i + (1 + j) by omega, ha2 (1 + j) (by omega)]
          show Value.ref (H.size + 1 + j) = Value.ref (H.size + (1 + j))
          rw [Nat.add_assoc]
        · rw [if_neg hj, if_neg hj]; rfl
      | succ m =>
        have e : i + (m + 1) = i + 1 + m := by omega
        rw [e]
        obtain ⟨h5, h6⟩ := hrow m (by omega)
        rw [jcell_int h5, h6, hz0 m (by omega)]
        show U.heap[H.size + (m + 1)]? = some (vp_cell _ _)
        rw [show H.size + (m + 1) = H.size + 1 + m by omega, hrw m (by omega)]
        rfl)
  have k := h ad' ha1 ls U.heap locs hl hP1 hD1 hS1
  rw [hii] at k
  obtain ⟨t, s1, s2⟩ := k U rfl X1
  refine ⟨t, step t ?_, s2⟩
  rw [show T.heap.size = H.size by rw [hT]]
  exact s1
end CR
