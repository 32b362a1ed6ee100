/-! ===== each part of the relation looks at its own cells ===== -/
section FR
variable {n p : Nat} {a : Nat → Nat → Nat} {hd : Nat → Bool} {od pl sd : Nat → Nat} {gn : List Nat} {wd : Bool} {I J : jM}
theorem XT.fr (h : XT n p a hd sd I) (e : ∀ c, 1 ≤ c → c ≤ 29 → J c = I c) (hn : n ≤ 24) : XT n p a hd sd J := by
  obtain ⟨h1, h2, h3, h4, h5, h6⟩ := h
  refine ⟨by rw [e 1 (by omega) (by omega)]; exact h1, by rw [e 2 (by omega) (by omega)]; exact h2, fun u w hu hw => by rw [e (4 + u) (by omega) (by omega)]; exact h3 u w hu hw, fun u hu => by rw [e 28 (by omega) (by omega)]; exact h4 u hu, by rw [e 1 (by omega) (by omega)]; exact h5, fun u hu => by rw [e 29 (by omega) (by omega)]; exact h6 u hu⟩
theorem XR.fr (h : XR n od pl I) (e : ∀ c, 30 ≤ c → c ≤ 32 → J c = I c) : XR n od pl J := by
  unfold XR at h ⊢
  rw [e 30 (by omega) (by omega), e 31 (by omega) (by omega), e 32 (by omega) (by omega)]
  exact h
theorem Held.fr {c : Nat} {l : List Nat} (h : Held I c l) (e : J c = I c) : Held J c l := fun k hk => by rw [e]; exact h k hk
theorem XF.fr (h : XF n a od pl I) (e0 : J 0 9 = I 0 9) (e : ∀ c, 55 ≤ c → c ≤ 63 → J c = I c) : XF n a od pl J := by
  unfold XF Held at h ⊢
  rw [e0, e 55 (by omega) (by omega), e 58 (by omega) (by omega), e 59 (by omega) (by omega), e 60 (by omega) (by omega), e 61 (by omega) (by omega), e 62 (by omega) (by omega), e 63 (by omega) (by omega)]
  exact h
theorem XF.no (e0 : J 0 9 = 0) : XF n a od pl J := Or.inl e0
theorem XL.fr (h : XL n a I) (e0 : J 0 10 = I 0 10) (e : ∀ c, 37 ≤ c → c ≤ 38 → J c = I c) : XL n a J := by
  unfold XL at h ⊢
  rw [e0, e 37 (by omega) (by omega), e 38 (by omega) (by omega)]
  exact h
theorem XL.no (e0 : J 0 10 = 0) : XL n a J := Or.inl e0
theorem XG.fr (h : XG n a gn I) (e : ∀ c, 64 ≤ c → c ≤ 67 → J c = I c) : XG n a gn J := by
  unfold XG Held at h ⊢
  rw [e 64 (by omega) (by omega), e 65 (by omega) (by omega), e 66 (by omega) (by omega), e 67 (by omega) (by omega)]
  exact h
theorem XW.fr (h : XW n p a od wd I) (e : ∀ c, 68 ≤ c → c ≤ 95 → J c = I c) (hn : n ≤ 24) : XW n p a od wd J := by
  unfold XW at h ⊢
  rw [e 68 (by omega) (by omega), e 94 (by omega) (by omega), e 95 (by omega) (by omega)]
  cases wd with
  | false => exact h
  | true =>
    rw [if_pos rfl] at h ⊢
    obtain ⟨w, b, h1, h2, h3, h4, h5⟩ := h
    exact ⟨w, b, h1, h2, h3, h4, fun k hk => ⟨(h5 k hk).1, (h5 k hk).2.1, fun i hi hin => by rw [e (70 + i) (by omega) (by omega)]; exact (h5 k hk).2.2 i hi hin⟩⟩
theorem MT.fr (h : MT n p a hd sd I) (e0 : J 100 0 = I 100 0) (e1 : J 100 1 = I 100 1) (e2 : J 101 = I 101) (e3 : J 102 = I 102) (e4 : J 104 = I 104) : MT n p a hd sd J := by
  unfold MT at h ⊢
  rw [e0, e1, e2, e3, e4]
  exact h
theorem MR.fr (h : MR n od I) (e : J 103 = I 103) : MR n od J := by
  unfold MR at h ⊢; rw [e]; exact h
theorem MG.fr (h : MG n a gn I) (e0 : J 100 15 = I 100 15) (e1 : J 111 = I 111) (e2 : J 112 = I 112) (e3 : J 113 = I 113) : MG n a gn J := by
  unfold MG Held at h ⊢; rw [e0, e1, e2, e3]; exact h
theorem MW.fr (h : MW n p a od wd I) (e0 : J 100 18 = I 100 18) (e1 : J 100 19 = I 100 19) (e2 : J 114 = I 114) (e3 : J 115 = I 115) : MW n p a od wd J := by
  unfold MW at h ⊢; rw [e0, e1, e2, e3]; exact h
theorem ML.fr (h : ML n a I) (e0 : J 100 13 = I 100 13) (e1 : J 110 = I 110) : ML n a J := by
  unfold ML at h ⊢; rw [e0, e1]; exact h
theorem ML.no (e0 : J 100 13 = -1) : ML n a J := Or.inl e0
end FR
/-- a refusal of kind k on both sides -/
theorem RR.refuse {IX IM : jM} (h : RR IX IM) (k : Nat) (h1 : 1 ≤ k) (h6 : k ≤ 6) : RR (jwr IX 99 k (IX 99 k + 1)) (jwr IM 105 k (IM 105 k + 1)) := by
  obtain ⟨n, p, a, hd, od, pl, sd, gn, wd, hok, xt, xr, xf, xl, xg, xw, mt, mr, mg, mw, ml, hc⟩ := h
  have eX : ∀ c, c ≠ 99 → jwr IX 99 k (IX 99 k + 1) c = IX c := fun c hc => jwr_ne hc
  have eM : ∀ c, c ≠ 105 → jwr IM 105 k (IM 105 k + 1) c = IM c := fun c hc => jwr_ne hc
  refine ⟨n, p, a, hd, od, pl, sd, gn, wd, hok, xt.fr (fun c _ _ => eX c (by omega)) hok.2.1, xr.fr (fun c _ _ => eX c (by omega)), xf.fr (by rw [eX 0 (by omega)]) (fun c _ _ => eX c (by omega)), xl.fr (by rw [eX 0 (by omega)]) (fun c _ _ => eX c (by omega)), xg.fr (fun c _ _ => eX c (by omega)), xw.fr (fun c _ _ => eX c (by omega)) hok.2.1, mt.fr (by rw [eM 100 (by omega)]) (by rw [eM 100 (by omega)]) (eM _ (by omega)) (eM _ (by omega)) (eM _ (by omega)), mr.fr (eM _ (by omega)), mg.fr (by rw [eM 100 (by omega)]) (eM _ (by omega)) (eM _ (by omega)) (eM _ (by omega)), mw.fr (by rw [eM 100 (by omega)]) (by rw [eM 100 (by omega)]) (eM _ (by omega)) (eM _ (by omega)), ml.fr (by rw [eM 100 (by omega)]) (eM _ (by omega)), fun j hj hj6 => ?_⟩
  rw [jwr_at, jwr_at, hc k h1 h6, hc j hj hj6]
  by_cases e : j = k
  · subst e; simp
  · simp [e]
