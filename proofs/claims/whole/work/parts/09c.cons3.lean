/-- a constructor's contract: from the bare object at h0 it comes to the cells Lr of the layout, the object itself at place r of it -/
def cS (l : Launch) (D : va_G) (g : ClassId × ClassId × ClassId) (y : MethodName) (cc : ByteArray) (f L mc ms r : Nat) (Lr : List Nat) (h0 sz : Nat) : Prop :=
  Met l y (.code y cc 1 none :: jtbl) ({ frames := f, cells := mc, slots := ms, locals := L } : Room) (va_Pc [.ref h0] (fun U => U.heap.size = sz ∧ va_at D jCl (h0, .inr (jk r, jfp id r [])) U.heap ∧ cK D g U)) (va_Qv (fun ad : Nat → Nat => ad r = h0) (fun ad t => mP D (jworld (D, g, ad, Lr) jI0) t.heap ∧ mD (cA h0 sz) (jworld (D, g, ad, Lr) jI0)) (cA h0 sz)) mc ms (cA h0 sz)
def cQ (Z : jZ) (D : va_G) (g : ClassId × ClassId × ClassId) (r : Nat) (Lr : List Nat) (h0 sz mc ms : Nat) : State → Prop := MQ (jZb Z) (va_Qv (fun ad : Nat → Nat => ad r = h0) (fun ad t => mP D (jworld (D, g, ad, Lr) jI0) t.heap ∧ mD (cA h0 sz) (jworld (D, g, ad, Lr) jI0)) (cA h0 sz)) (jZa Z) (jZs Z) mc ms (cA h0 sz)
theorem jfp_nil (ad ad' : Nat → Nat) (r : Nat) : jfp ad r [] = jfp ad' r [] := jfp_ad (Ls := []) (fun k hk => by cases hk) (fun j hj => by cases hj)
theorem cS_of {l : Launch} {D : va_G} {g : ClassId × ClassId × ClassId} {y : MethodName} {cc : ByteArray} {f L mc ms r : Nat} {h0 sz : Nat} {own : String} {Qc : Array Value → State → Outcome → State → Prop} (hy : plainFor y = true) (hown : y.cls = own) (hni : y.name = "<init>")
    (body : ∀ Z : jZ, jZl Z = l → (jZs Z).heap.size = sz → cC Z D g (cA h0 sz) cc own f L mc ms → cJ Z D g (cA h0 sz) 0 0 (MQ (jZb Z) Qc (jZa Z) (jZs Z) mc ms (cA h0 sz)) 0 r h0 [] [] id [] []) :
    Met l y (.code y cc 1 none :: jtbl) ({ frames := f, cells := mc, slots := ms, locals := L } : Room) (va_Pc [.ref h0] (fun U => U.heap.size = sz ∧ va_at D jCl (h0, .inr (jk r, jfp id r [])) U.heap ∧ cK D g U)) Qc mc ms (cA h0 sz) := by
  refine jMet_ofW (cc := cc) (maxL := 1) (ret := none) hy rfl ?_
  intro p e s m args below meth c s₁ B hml hv
  obtain ⟨rfl, hsz, hat, hK⟩ := hv
  have hts := atoms_spec (ws := .code y cc 1 none :: jtbl) B.pre
  have ho : s.vm.findClass own = some m.cls := hown ▸ findClass_of_methodNamed B.named
  have hnm : meth.name = "<init>" := hni ▸ (name_of_methodNamed B.named B.method).1
  have hl := lv_entry [.ref h0] (n := 1) (Nat.le_of_ble_eq_true rfl)
  rw [lg_entry_eq]
  refine body (p, l, e, (headSpec (.code y cc 1 none :: jtbl) ({ frames := f, cells := mc, slots := ms, locals := L } : Room)).room, s, m, #[.ref h0], below, meth, c) rfl hsz ⟨B.exec, B.bytes, hml, ho, fun w hw => hts w (List.mem_cons_of_mem _ hw), hK, hnm, B.notSynchronized, Nat.le_refl _, Nat.le_refl _, Nat.le_refl _, Nat.le_refl _, fun q hq => Or.inr (hsz ▸ hq), B.returns⟩ _ s.heap [] hl ?_ ?_ va_S.rf
  · intro x hx
    rcases List.mem_cons.mp hx with rfl | hx
    · exact hat
    · cases hx
  · exact ⟨by simp [cw, jworld], fun x hx => by
      rcases List.mem_cons.mp hx with rfl | hx
      · exact Or.inl rfl
      · cases hx⟩
section CR2
variable {Z : jZ} {D : va_G} {g : ClassId × ClassId × ClassId} {A : Nat → Prop} {cc : ByteArray} {own : String} {fR lR mc ms kc ks : Nat} {Q : State → Prop} {pc r h0 : Nat} {done : List Nat} {ad : Nat → Nat} {Ls : List Nat} {st : List Value}
/-- the root's fields are all set: the world is a world of the layout -/
theorem c_full (hr : jk r ≠ 1000 ∧ jk r ≠ 1001 ∧ jk r ≠ 1002) (hfull : ∀ k, k < jn (jk r) → k ∈ done ∨ (jq (jk r) k = false ∧ jI0 r k = 0)) (hcl : jclo Ls) (hrL : r ∉ Ls) (hch : ∀ k, k < jn (jk r) → jq (jk r) k = true → jr r k ∈ Ls) : cw g D r h0 done [] ad Ls = jworld (D, g, va_up ad r h0, r :: Ls) jI0 := by
  have ha : ∀ j ∈ Ls, va_up ad r h0 j = ad j := fun j hj => if_neg (fun (e : j = r) => hrL (e ▸ hj))
  have h1 : jworld (D, g, va_up ad r h0, r :: Ls) jI0 = (va_up ad r h0 r, jcell g (va_up ad r h0) r jI0) :: jworld (D, g, va_up ad r h0, Ls) jI0 := rfl
  rw [h1, jworld_ad hcl ha, jcell_obj rfl hr.1 hr.2.1 hr.2.2, show va_up ad r h0 r = h0 from if_pos rfl]
  unfold cw
  rw [jfp_full hfull]
  have h2 : jfs (va_up ad r h0) r jI0 = jfs ad r jI0 := by
    unfold jfs
    apply List.map_congr_left
    intro k hk
    by_cases hq : jq (jk r) k = true
    · rw [if_pos hq, if_pos hq, ha _ (hch k (List.mem_range.mp hk) hq)]
    · rw [if_neg hq, if_neg hq]
  rw [h2]
  rfl
theorem c_ret {sz : Nat} {Lr : List Nat} (C : cC Z D g (cA h0 sz) cc own fR lR mc ms) (hLr : Lr = r :: Ls) (hr : jk r ≠ 1000 ∧ jk r ≠ 1001 ∧ jk r ≠ 1002) (hfull : ∀ k, k < jn (jk r) → k ∈ done ∨ (jq (jk r) k = false ∧ jI0 r k = 0)) (hcl : jclo Ls) (hrL : r ∉ Ls) (hch : ∀ k, k < jn (jk r) → jq (jk r) k = true → jr r k ∈ Ls) (d : decode cc pc = .ok (.return_, 1)) : cJ Z D g (cA h0 sz) kc ks (cQ Z D g r Lr h0 sz kc ks) pc r h0 done [] ad Ls [] := fun ls H locs hl hP hD hS => by
  subst hLr
  rw [c_full hr hfull hcl hrL hch] at hP hD
  exact W.vret C.x C.b C.r (fun t ht hW => ⟨⟨va_up ad r h0, rfl, if_pos rfl, by rw [ht]; exact hP, hD⟩, hS.F ht⟩) hS.2.2 d C.lk
/-- new, dup, <init>: a child of the root, by its own constructor's contract -/
theorem c_child (C : cC Z D g A cc own fR lR mc ms) {i cj : Nat} {Cn : String} {F : u_T} {N : Nat} {ty : Nat → FieldType} (hc : jcl cj Cn F N ty) (hki : jk i = cj) {idx idx2 : Nat} {y : MethodName} {bytes : ByteArray} {f L mc2 ms2 : Nat} {Lc : List Nat} (w1 : Cond.classLink own idx Cn ∈ jtbl) (w2 : Cond.instantiable Cn N ∈ jtbl) (w3 : Cond.initialized Cn ∈ jtbl) (hdf : ∀ j, j < N → defaultValue (ty j) = vp_V (jfp id i []) j)
    (w4 : Cond.methodLinkNest own idx2 y "OutOrder" ∈ jnm) (w5 : Cond.instanceMethod y ∈ jtbl) (w6 : Cond.code y bytes 1 none ∈ jtbl) (hyc : y.cls = Cn) (hyn : y.name = "<init>") (hyd : y.cls ≠ "java/lang/invoke/MethodHandle" ∧ y.cls ≠ "java/lang/invoke/VarHandle" ∧ (parseMethodDescriptor y.desc).map (fun d => d.parameters.length) = some 0)
    (hf : f + 1 ≤ fR) (hl0 : 8 + (1 + 11) + L ≤ lR) (hW : (st.map fun v => v.category).sum + 1 ≤ 8) (hcc : kc + 1 + mc2 ≤ mc) (hss : ks + N + ms2 ≤ ms) (hcl : jclo Ls) (hclc : jclo Lc) (hdis : ∀ j ∈ Lc, j ∉ Ls) (hiL : i ∈ Lc) (hdn : ∀ k ∈ done, jq (jk r) k = true → jr r k ∈ Ls)
    (hM : ∀ q sz, cS (jZl Z) D g y bytes f L mc2 ms2 i Lc q sz) (d1 : decode cc pc = .ok (.new idx, 3)) (d2 : decode cc (pc + 3) = .ok (.dup, 1)) (d3 : decode cc (pc + 4) = .ok (.invokespecial idx2, 3))
    (h : ∀ ad' : Nat → Nat, (∀ j ∈ Ls, ad' j = ad j) → cJ Z D g A (kc + 1 + mc2) (ks + N + ms2) Q (pc + 7) r h0 done [] ad' (Ls ++ Lc) (.ref (ad' i) :: st)) : cJ Z D g A kc ks Q pc r h0 done [] ad Ls st := fun ls H locs hl hP hD hS => by
  subst hki
  refine va_new (ci := jk i) (fs := jfp id i []) C.x C.b C.ts hc.2.2.2.2.2.1 ty hc.2.2.2.2.2.2.1 C.own (C.ts _ w1) (C.ts _ w2) (C.ts _ w3) C.K.1 hP.to hD.to hS C.hA hc.1 hdf (Nat.le_trans (by omega) C.ce) (Nat.le_trans (by omega) C.sl) d1 (fun q H1 hP1 hD1 hS1 => ?_)
  refine lv_dup C.x C.b d2 rfl ?_
  have hPm := mP.of hP1
  have hDm := mD.of hD1
  have hq1 : va_at D jCl (q, .inr (jk i, jfp id i [])) H1 := hPm _ (List.mem_append_right _ List.mem_cons_self)
  have hqA : A q := hDm.2 (q, .inr (jk i, jfp id i [])) (List.mem_append_right _ List.mem_cons_self)
  have hnd := hDm.1
  rw [List.map_append, List.nodup_append] at hnd
  have hne : ∀ x ∈ cw g D r h0 done [] ad Ls, x.1 ≠ q := fun x hx e => hnd.2.2 x.1 (List.mem_map.mpr ⟨x, hx, rfl⟩) q (by simp) e
  have hA1 : ∀ z, cA q H1.size z → A z := fun z hz => by
    rcases hz with rfl | hz
    · exact hqA
    · exact C.hA z (Nat.le_trans hS1.1 hz)
  refine va_callv (va_runIN (As := []) (rest := .ref q :: st) ⟨C.x, C.b, C.ml, C.own, C.ts⟩ (hM q H1.size) ⟨va_cnB (host := "OutOrder") 0 C.ts (jgoodIn w6) rfl rfl rfl (C.K.2.2.1 _ w4) (by rw [hyc]; exact C.ts _ w3) hyd ⟨Nat.le_trans hf C.fr, Nat.le_trans hl0 C.lo⟩, hyn, C.ts _ w5⟩ ⟨fun a U g9 mk qq => ?_, fun U hU hWm => ⟨rfl, by rw [hU], by rw [hU]; exact hq1, C.K.warm hWm⟩⟩ rfl rfl hl.1 rfl (by rw [List.map_cons, List.sum_cons]; show 2 * 0 + (1 + (List.map (fun v => v.category) st).sum) ≤ 8; omega) d3 ⟨Nat.le_trans hcc C.ce, Nat.le_trans hss C.sl⟩) hS1 (fun z _ hz => hA1 z hz) hA1 (fun adc t H2 locs2 ht hvm hpost hB hz2 hk2 hS2 => ?_)
  · obtain ⟨q0, q2, q3, q4⟩ := qq
    exact ⟨q0, q2, q3, cK.same (u := U) (U := U.calling g9 mk a) rfl q4⟩
  · obtain ⟨hB1, hB2⟩ := hB
    rw [ht] at hB1
    obtain ⟨ad', had⟩ : ∃ ad' : Nat → Nat, ad' = fun j => if j ∈ Lc then adc j else ad j := ⟨_, rfl⟩
    have e1 : ∀ j ∈ Ls, ad' j = ad j := fun j hj => by rw [had]; exact if_neg (fun hc => hdis j hc hj)
    have e2 : ∀ j ∈ Lc, ad' j = adc j := fun j hj => by rw [had]; exact if_pos hj
    have e : cw g D r h0 done [] ad' (Ls ++ Lc) = cw g D r h0 done [] ad Ls ++ jworld (D, g, adc, Lc) jI0 := by
      unfold cw
      rw [jworld_app, jworld_ad hcl e1, jworld_ad hclc e2, jfp_ad hdn e1]
      rfl
    have hold : ∀ x ∈ cw g D r h0 done [] ad Ls, x.1 < H1.size := fun x hx => hPm.lt x (List.mem_append_left _ hx)
    have k := h ad' e1 ls H2 locs2 hl (by
      rw [e]
      intro x hx
      rcases List.mem_append.mp hx with hx | hx
      · have hPo : mP D (cw g D r h0 done [] ad Ls) H1 := hPm.sub (fun x hx => List.mem_append_left _ hx)
        exact (mP.of (hPo.to.kept (fun k9 x9 hx9 => hk2 _ ((hPo.to k9 x9 hx9).lt) (fun hc => by
          rcases hc with hc | hc
          · exact hne x9 (List.mem_of_getElem? hx9) hc
          · have := (hPo.to k9 x9 hx9).lt; omega)))) x hx
      · exact hB1 x hx) (by
      rw [e]
      refine ⟨?_, fun x hx => ?_⟩
      · rw [List.map_append, List.nodup_append]
        refine ⟨hnd.1, hB2.1, fun a ha b hb eab => ?_⟩
        obtain ⟨x, hx, rfl⟩ := List.mem_map.mp ha
        obtain ⟨y9, hy, rfl⟩ := List.mem_map.mp hb
        rcases hB2.2 y9 hy with hc | hc
        · exact hne x hx (eab.trans hc)
        · have := hold x hx; omega
      · rcases List.mem_append.mp hx with hx | hx
        · exact hDm.2 x (List.mem_append_left _ hx)
        · exact hA1 _ (hB2.2 x hx)) hS2
    rw [e2 i hiL, hpost] at k
    exact k
end CR2
