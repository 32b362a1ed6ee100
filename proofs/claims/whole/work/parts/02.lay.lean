def jT_FN : u_T := fun k => match k with
  | 0 => ("OutOrder$FullNet", "net", "LOutOrder$Net;", true)
  | 1 => ("OutOrder$FullNet", "pairs", "[I", true)
  | 2 => ("OutOrder$FullNet", "behind", "[I", true)
  | 3 => ("OutOrder$FullNet", "parents", "[I", true)
  | 4 => ("OutOrder$FullNet", "heights", "[I", true)
  | 5 => ("OutOrder$FullNet", "children", "[I", true)
  | 6 => ("OutOrder$FullNet", "groups", "[I", true)
  | 7 => ("OutOrder$FullNet", "fillCount", "I", false)
  | 8 => ("OutOrder$FullNet", "groupCount", "I", false)
  | _ => ("OutOrder$FullNet", "widest", "I", false)
def jt_FN : Nat → FieldType := fun k => match k with
  | 0 => .object "OutOrder$Net"
  | 1 => .array .int
  | 2 => .array .int
  | 3 => .array .int
  | 4 => .array .int
  | 5 => .array .int
  | 6 => .array .int
  | 7 => .int
  | 8 => .int
  | _ => .int
def jT_GO : u_T := fun k => match k with
  | 0 => ("OutOrder$Going", "net", "LOutOrder$Net;", true)
  | 1 => ("OutOrder$Going", "gone", "[I", true)
  | _ => ("OutOrder$Going", "count", "I", false)
def jt_GO : Nat → FieldType := fun k => match k with
  | 0 => .object "OutOrder$Net"
  | 1 => .array .int
  | _ => .int
def jT_LE : u_T := fun k => match k with
  | 0 => ("OutOrder$Least", "sums", "[I", true)
  | 1 => ("OutOrder$Least", "widths", "[I", true)
  | 2 => ("OutOrder$Least", "nets", "[[I", true)
  | _ => ("OutOrder$Least", "net", "LOutOrder$Net;", true)
def jt_LE : Nat → FieldType := fun k => match k with
  | 0 => .array .int
  | 1 => .array .int
  | 2 => .array (.array .int)
  | _ => .object "OutOrder$Net"
def jT_MO : u_T := fun k => match k with
  | _ => ("OutOrder$Modulus", "p", "I", false)
def jt_MO : Nat → FieldType := fun k => match k with
  | _ => .int
def jT_NE : u_T := fun k => match k with
  | 0 => ("OutOrder$Net", "near", "[I", true)
  | 1 => ("OutOrder$Net", "left", "I", false)
  | _ => ("OutOrder$Net", "n", "I", false)
def jt_NE : Nat → FieldType := fun k => match k with
  | 0 => .array .int
  | 1 => .int
  | _ => .int
def jT_PL : u_T := fun k => match k with
  | _ => ("OutOrder$Plan", "rounds", "[I", true)
def jt_PL : Nat → FieldType := fun k => match k with
  | _ => .array .int
def jT_RO : u_T := fun k => match k with
  | 0 => ("OutOrder$Row", "unknowns", "[I", true)
  | 1 => ("OutOrder$Row", "places", "[I", true)
  | _ => ("OutOrder$Row", "n", "I", false)
def jt_RO : Nat → FieldType := fun k => match k with
  | 0 => .array .int
  | 1 => .array .int
  | _ => .int
def jT_RU : u_T := fun k => match k with
  | _ => ("OutOrder$Rules", "net", "LOutOrder$Net;", true)
def jt_RU : Nat → FieldType := fun k => match k with
  | _ => .object "OutOrder$Net"
def jT_TA : u_T := fun k => match k with
  | 0 => ("OutOrder$Table", "modulus", "LOutOrder$Modulus;", true)
  | 1 => ("OutOrder$Table", "values", "[[I", true)
  | 2 => ("OutOrder$Table", "joins", "[I", true)
  | 3 => ("OutOrder$Table", "sides", "[I", true)
  | 4 => ("OutOrder$Table", "n", "I", false)
  | _ => ("OutOrder$Table", "held", "I", false)
def jt_TA : Nat → FieldType := fun k => match k with
  | 0 => .object "OutOrder$Modulus"
  | 1 => .array (.array .int)
  | 2 => .array .int
  | 3 => .array .int
  | 4 => .int
  | _ => .int
def jT_WO : u_T := fun k => match k with
  | 0 => ("OutOrder$Work", "ones", "[[I", true)
  | 1 => ("OutOrder$Work", "pivots", "[I", true)
  | 2 => ("OutOrder$Work", "inverses", "[I", true)
  | 3 => ("OutOrder$Work", "answers", "[I", true)
  | 4 => ("OutOrder$Work", "worked", "I", false)
  | _ => ("OutOrder$Work", "stuckPlace", "I", false)
def jt_WO : Nat → FieldType := fun k => match k with
  | 0 => .array (.array .int)
  | 1 => .array .int
  | 2 => .array .int
  | 3 => .array .int
  | 4 => .int
  | _ => .int
def jT_OO : u_T := fun k => match k with
  | 0 => ("OutOrder", "numbers", "LOutOrder$Table;", true)
  | 1 => ("OutOrder", "row", "LOutOrder$Row;", true)
  | 2 => ("OutOrder", "rules", "LOutOrder$Rules;", true)
  | 3 => ("OutOrder", "minima", "LOutOrder$Least;", true)
  | 4 => ("OutOrder", "full", "LOutOrder$FullNet;", true)
  | 5 => ("OutOrder", "state", "LOutOrder$Going;", true)
  | 6 => ("OutOrder", "factors", "LOutOrder$Work;", true)
  | 7 => ("OutOrder", "shares", "LOutOrder$Plan;", true)
  | 8 => ("OutOrder", "refusals", "[I", true)
  | 9 => ("OutOrder", "fullKnown", "Z", false)
  | _ => ("OutOrder", "minimaKnown", "Z", false)
def jt_OO : Nat → FieldType := fun k => match k with
  | 0 => .object "OutOrder$Table"
  | 1 => .object "OutOrder$Row"
  | 2 => .object "OutOrder$Rules"
  | 3 => .object "OutOrder$Least"
  | 4 => .object "OutOrder$FullNet"
  | 5 => .object "OutOrder$Going"
  | 6 => .object "OutOrder$Work"
  | 7 => .object "OutOrder$Plan"
  | 8 => .array .int
  | 9 => .boolean
  | _ => .boolean
def jT_MD : u_T := fun k => match k with
  | 0 => ("OutOrderModel", "n", "I", false)
  | 1 => ("OutOrderModel", "p", "I", false)
  | 2 => ("OutOrderModel", "numbers", "[I", true)
  | 3 => ("OutOrderModel", "held", "[Z", true)
  | 4 => ("OutOrderModel", "order", "[I", true)
  | 5 => ("OutOrderModel", "sides", "[I", true)
  | 6 => ("OutOrderModel", "refused", "[I", true)
  | 7 => ("OutOrderModel", "net", "[I", true)
  | 8 => ("OutOrderModel", "behind", "[I", true)
  | 9 => ("OutOrderModel", "fillPairs", "[I", true)
  | 10 => ("OutOrderModel", "fillMany", "I", false)
  | 11 => ("OutOrderModel", "place", "[I", true)
  | 12 => ("OutOrderModel", "leastOf", "[I", true)
  | 13 => ("OutOrderModel", "known", "I", false)
  | 14 => ("OutOrderModel", "gone", "[I", true)
  | 15 => ("OutOrderModel", "goneMany", "I", false)
  | 16 => ("OutOrderModel", "goingNet", "[I", true)
  | 17 => ("OutOrderModel", "now", "[I", true)
  | 18 => ("OutOrderModel", "worked", "I", false)
  | 19 => ("OutOrderModel", "stuck", "I", false)
  | 20 => ("OutOrderModel", "pivots", "[I", true)
  | 21 => ("OutOrderModel", "ones", "[I", true)
  | 22 => ("OutOrderModel", "x", "[I", true)
  | _ => ("OutOrderModel", "rounds", "[I", true)
def jt_MD : Nat → FieldType := fun k => match k with
  | 0 => .int
  | 1 => .int
  | 2 => .array .int
  | 3 => .array .boolean
  | 4 => .array .int
  | 5 => .array .int
  | 6 => .array .int
  | 7 => .array .int
  | 8 => .array .int
  | 9 => .array .int
  | 10 => .int
  | 11 => .array .int
  | 12 => .array .int
  | 13 => .int
  | 14 => .array .int
  | 15 => .int
  | 16 => .array .int
  | 17 => .array .int
  | 18 => .int
  | 19 => .int
  | 20 => .array .int
  | 21 => .array .int
  | 22 => .array .int
  | _ => .array .int
/-- the classes whose objects the worlds hold -/
def jCl : List vw_C := [("OutOrder$FullNet", jT_FN, 10), ("OutOrder$Going", jT_GO, 3), ("OutOrder$Least", jT_LE, 4), ("OutOrder$Modulus", jT_MO, 1), ("OutOrder$Net", jT_NE, 3), ("OutOrder$Plan", jT_PL, 1), ("OutOrder$Row", jT_RO, 3), ("OutOrder$Rules", jT_RU, 1), ("OutOrder$Table", jT_TA, 6), ("OutOrder$Work", jT_WO, 6), ("OutOrder", jT_OO, 11), ("OutOrderModel", jT_MD, 24)]
/-- every word that a call may need: the tables' own and the private methods' -/
def jtbl : List Cond := lw_tbl.filter goodWord
theorem jtbl_in {w : Cond} (n : Nat) (h : tables_1[n]? = some w) (g : goodWord w = true) : w ∈ jtbl := List.mem_filter.mpr ⟨List.mem_append_right _ (List.mem_of_getElem? h), g⟩
theorem jtbl_sel {w : Cond} (n : Nat) (h : (k2_sels lw_privs)[n]? = some w) (g : goodWord w = true) : w ∈ jtbl := List.mem_filter.mpr ⟨List.mem_append_left _ (List.mem_of_getElem? h), g⟩
def jnst : List Cond := [Cond.fieldLinkNest "OutOrder$Table" 34 "OutOrder$Modulus" "p" "I" "OutOrder", Cond.fieldLinkNest "OutOrder" 261 "OutOrder$Modulus" "p" "I" "OutOrder", Cond.fieldLinkNest "OutOrder$Work" 45 "OutOrder$Table" "modulus" "LOutOrder$Modulus;" "OutOrder", Cond.fieldLinkNest "OutOrder" 233 "OutOrder$Table" "modulus" "LOutOrder$Modulus;" "OutOrder", Cond.fieldLinkNest "OutOrder" 86 "OutOrder$Table" "values" "[[I" "OutOrder", Cond.fieldLinkNest "OutOrder$Work" 63 "OutOrder$Table" "values" "[[I" "OutOrder", Cond.fieldLinkNest "OutOrder$Least" 36 "OutOrder$Table" "joins" "[I" "OutOrder", Cond.fieldLinkNest "OutOrder$Net" 25 "OutOrder$Table" "joins" "[I" "OutOrder", Cond.fieldLinkNest "OutOrder$Rules" 69 "OutOrder$Table" "joins" "[I" "OutOrder", Cond.fieldLinkNest "OutOrder" 159 "OutOrder$Table" "joins" "[I" "OutOrder", Cond.fieldLinkNest "OutOrder$Work" 78 "OutOrder$Table" "sides" "[I" "OutOrder", Cond.fieldLinkNest "OutOrder" 230 "OutOrder$Table" "sides" "[I" "OutOrder", Cond.fieldLinkNest "OutOrder$Least" 30 "OutOrder$Table" "n" "I" "OutOrder", Cond.fieldLinkNest "OutOrder$Net" 19 "OutOrder$Table" "n" "I" "OutOrder", Cond.fieldLinkNest "OutOrder$Rules" 22 "OutOrder$Table" "n" "I" "OutOrder", Cond.fieldLinkNest "OutOrder$Work" 40 "OutOrder$Table" "n" "I" "OutOrder", Cond.fieldLinkNest "OutOrder" 104 "OutOrder$Table" "n" "I" "OutOrder", Cond.fieldLinkNest "OutOrder$Rules" 31 "OutOrder$Table" "held" "I" "OutOrder", Cond.fieldLinkNest "OutOrder" 100 "OutOrder$Table" "held" "I" "OutOrder", Cond.fieldLinkNest "OutOrder$FullNet" 53 "OutOrder$Row" "unknowns" "[I" "OutOrder", Cond.fieldLinkNest "OutOrder$Plan" 34 "OutOrder$Row" "unknowns" "[I" "OutOrder", Cond.fieldLinkNest "OutOrder$Work" 66 "OutOrder$Row" "unknowns" "[I" "OutOrder", Cond.fieldLinkNest "OutOrder" 124 "OutOrder$Row" "unknowns" "[I" "OutOrder", Cond.fieldLinkNest "OutOrder" 130 "OutOrder$Row" "places" "[I" "OutOrder", Cond.fieldLinkNest "OutOrder$Plan" 15 "OutOrder$Row" "n" "I" "OutOrder", Cond.fieldLinkNest "OutOrder$FullNet" 48 "OutOrder$Row" "n" "I" "OutOrder", Cond.fieldLinkNest "OutOrder$FullNet" 56 "OutOrder$Net" "near" "[I" "OutOrder", Cond.fieldLinkNest "OutOrder$Rules" 52 "OutOrder$Net" "near" "[I" "OutOrder", Cond.fieldLinkNest "OutOrder$Going" 37 "OutOrder$Net" "near" "[I" "OutOrder", Cond.fieldLinkNest "OutOrder$Least" 98 "OutOrder$Net" "near" "[I" "OutOrder", Cond.fieldLinkNest "OutOrder" 204 "OutOrder$Net" "near" "[I" "OutOrder", Cond.fieldLinkNest "OutOrder$Rules" 28 "OutOrder$Net" "left" "I" "OutOrder", Cond.fieldLinkNest "OutOrder$Going" 34 "OutOrder$Net" "left" "I" "OutOrder", Cond.fieldLinkNest "OutOrder$FullNet" 85 "OutOrder$Net" "n" "I" "OutOrder", Cond.fieldLinkNest "OutOrder$Rules" 48 "OutOrder$Net" "n" "I" "OutOrder", Cond.fieldLinkNest "OutOrder$Least" 89 "OutOrder$Net" "n" "I" "OutOrder", Cond.fieldLinkNest "OutOrder" 172 "OutOrder$Least" "sums" "[I" "OutOrder", Cond.fieldLinkNest "OutOrder" 178 "OutOrder$Least" "widths" "[I" "OutOrder", Cond.fieldLinkNest "OutOrder" 127 "OutOrder$FullNet" "pairs" "[I" "OutOrder", Cond.fieldLinkNest "OutOrder" 133 "OutOrder$FullNet" "behind" "[I" "OutOrder", Cond.fieldLinkNest "OutOrder" 141 "OutOrder$FullNet" "parents" "[I" "OutOrder", Cond.fieldLinkNest "OutOrder$Plan" 37 "OutOrder$FullNet" "heights" "[I" "OutOrder", Cond.fieldLinkNest "OutOrder" 144 "OutOrder$FullNet" "heights" "[I" "OutOrder", Cond.fieldLinkNest "OutOrder$Plan" 29 "OutOrder$FullNet" "children" "[I" "OutOrder", Cond.fieldLinkNest "OutOrder" 147 "OutOrder$FullNet" "children" "[I" "OutOrder", Cond.fieldLinkNest "OutOrder" 156 "OutOrder$FullNet" "groups" "[I" "OutOrder", Cond.fieldLinkNest "OutOrder" 118 "OutOrder$FullNet" "fillCount" "I" "OutOrder", Cond.fieldLinkNest "OutOrder" 153 "OutOrder$FullNet" "groupCount" "I" "OutOrder", Cond.fieldLinkNest "OutOrder" 150 "OutOrder$FullNet" "widest" "I" "OutOrder", Cond.fieldLinkNest "OutOrder" 185 "OutOrder$Going" "net" "LOutOrder$Net;" "OutOrder", Cond.fieldLinkNest "OutOrder" 264 "OutOrder$Going" "count" "I" "OutOrder", Cond.fieldLinkNest "OutOrder" 221 "OutOrder$Work" "pivots" "[I" "OutOrder", Cond.fieldLinkNest "OutOrder" 249 "OutOrder$Work" "answers" "[I" "OutOrder", Cond.fieldLinkNest "OutOrder" 215 "OutOrder$Work" "worked" "I" "OutOrder", Cond.fieldLinkNest "OutOrder" 218 "OutOrder$Work" "stuckPlace" "I" "OutOrder", Cond.fieldLinkNest "OutOrder" 258 "OutOrder$Plan" "rounds" "[I" "OutOrder"]
def jnq : Cond → Bool
  | .fieldLinkNest _ _ _ _ _ _ => true
  | _ => false
theorem jnst_ok : jnst.all jnq = true := by decide +kernel
theorem jnst_in : ∀ w ∈ jnst, w ∈ lw_tbl := by
  have h : jnst.all (fun w => decide (w ∈ tables_1)) = true := by decide +kernel
  intro w hw
  exact List.mem_append_right _ (of_decide_eq_true (List.all_eq_true.mp h w hw))
def jkL : List Nat := [10, 8, 3, 1002, 1000, 1000, 1000, 1000, 1000, 1000, 1000, 1000, 1000, 1000, 1000, 1000, 1000, 1000, 1000, 1000, 1000, 1000, 1000, 1000, 1000, 1000, 1000, 1000, 1000, 1000, 6, 1000, 1000, 7, 4, 1000, 2, 1000, 1000, 1002, 1000, 1000, 1000, 1000, 1000, 1000, 1000, 1000, 1000, 1000, 1000, 1000, 1000, 4, 1000, 0, 4, 1000, 1000, 1000, 1000, 1000, 1000, 1000, 1, 4, 1000, 1000, 9, 1002, 1000, 1000, 1000, 1000, 1000, 1000, 1000, 1000, 1000, 1000, 1000, 1000, 1000, 1000, 1000, 1000, 1000, 1000, 1000, 1000, 1000, 1000, 1000, 1000, 1000, 1000, 1000, 5, 1000, 1000, 11, 1000, 1001, 1000, 1000, 1000, 1000, 1000, 1000, 1000, 1000, 1000, 1000, 1000, 1000, 1000, 1000, 1000]
def jlL : List Nat := [0, 0, 0, 24, 24, 24, 24, 24, 24, 24, 24, 24, 24, 24, 24, 24, 24, 24, 24, 24, 24, 24, 24, 24, 24, 24, 24, 24, 24, 24, 0, 24, 24, 0, 0, 24, 0, 4096, 4096, 13, 12, 12, 12, 12, 12, 12, 12, 12, 12, 12, 12, 12, 12, 0, 24, 0, 0, 24, 288, 24, 24, 24, 24, 24, 0, 0, 24, 24, 0, 24, 24, 24, 24, 24, 24, 24, 24, 24, 24, 24, 24, 24, 24, 24, 24, 24, 24, 24, 24, 24, 24, 24, 24, 24, 24, 24, 24, 0, 24, 7, 0, 576, 24, 24, 24, 7, 24, 24, 300, 24, 4096, 24, 600, 24, 24, 576, 24, 24]
def jwL : List Nat := [0, 0, 0, 4, 0, 0, 0, 0, 0, 0, 0, 0, 0, 0, 0, 0, 0, 0, 0, 0, 0, 0, 0, 0, 0, 0, 0, 0, 0, 0, 0, 0, 0, 0, 0, 0, 0, 0, 0, 40, 0, 0, 0, 0, 0, 0, 0, 0, 0, 0, 0, 0, 0, 0, 0, 0, 0, 0, 0, 0, 0, 0, 0, 0, 0, 0, 0, 0, 0, 70, 0, 0, 0, 0, 0, 0, 0, 0, 0, 0, 0, 0, 0, 0, 0, 0, 0, 0, 0, 0, 0, 0, 0, 0, 0, 0, 0, 0, 0, 0, 0, 0, 0, 0, 0, 0, 0, 0, 0, 0, 0, 0, 0, 0, 0, 0, 0, 0]
def jrL : List (List Nat) := [[1, 30, 33, 36, 55, 64, 68, 97, 99, 0, 0], [2, 3, 28, 29, 0, 0], [0], [], [], [], [], [], [], [], [], [], [], [], [], [], [], [], [], [], [], [], [], [], [], [], [], [], [], [], [31, 32, 0], [], [], [34], [35, 0, 0], [], [37, 38, 39, 53], [], [], [], [], [], [], [], [], [], [], [], [], [], [], [], [], [54, 0, 0], [], [56, 58, 59, 60, 61, 62, 63, 0, 0, 0], [57, 0, 0], [], [], [], [], [], [], [], [65, 67, 0], [66, 0, 0], [], [], [69, 94, 95, 96, 0, 0], [], [], [], [], [], [], [], [], [], [], [], [], [], [], [], [], [], [], [], [], [], [], [], [], [], [], [], [], [98], [], [], [0, 0, 101, 102, 103, 104, 105, 106, 107, 108, 0, 109, 110, 0, 111, 0, 112, 113, 0, 0, 114, 115, 116, 117], [], [], [], [], [], [], [], [], [], [], [], [], [], [], [], [], []]
def jnL : List Nat := [10, 3, 4, 1, 3, 1, 3, 1, 6, 6, 11, 24]
def jqL : List (List Bool) := [[true, true, true, true, true, true, true, false, false, false], [true, true, false], [true, true, true, true], [false], [true, false, false], [true], [true, true, false], [true], [true, true, true, true, false, false], [true, true, true, true, false, false], [true, true, true, true, true, true, true, true, true, false, false], [false, false, true, true, true, true, true, true, true, true, false, true, true, false, true, false, true, true, false, false, true, true, true, true]]
/-- the kind of a cell: a class's number, 1000 int[], 1001 boolean[], 1002 int[][] -/
def jk (i : Nat) : Nat := jkL.getD i 9999
def jl (i : Nat) : Nat := jlL.getD i 0
def jw (i j : Nat) : Nat := jwL.getD i 0 + j
def jr (i k : Nat) : Nat := (jrL.getD i []).getD k 0
def jn (c : Nat) : Nat := jnL.getD c 0
def jq (c k : Nat) : Bool := (jqL.getD c []).getD k false
def jLX : List Nat := List.range 100
def jLM : List Nat := (List.range 18).map (· + 100)
/-- what is known of a class of the list -/
def jcl (ci : Nat) (C : String) (F : u_T) (N : Nat) (ty : Nat → FieldType) : Prop := jCl[ci]? = some (C, F, N) ∧ N = jn ci ∧ ci ≠ 1000 ∧ ci ≠ 1001 ∧ ci ≠ 1002 ∧ (∀ w ∈ u_ws C F N, w ∈ jtbl) ∧ (∀ k, k < N → parseFieldDescriptor (F k).2.2.1 = some (ty k)) ∧ (∀ a, a < N → ∀ b, b < N → a ≠ b → (F a).2.1 ≠ (F b).2.1)
theorem jws_FN : ∀ w ∈ u_ws "OutOrder$FullNet" jT_FN 10, w ∈ jtbl := by
  have e : u_ws "OutOrder$FullNet" jT_FN 10 = ([194, 196, 198, 200, 202, 204, 206, 208, 210, 212] : List Nat).filterMap (fun i => tables_1[i]?) := by decide +kernel
  have g : (u_ws "OutOrder$FullNet" jT_FN 10).all goodWord = true := by decide +kernel
  intro w hw
  have h1 := List.all_eq_true.mp g w hw
  rw [e] at hw
  obtain ⟨i, -, hi⟩ := List.mem_filterMap.mp hw
  exact jtbl_in i hi h1
theorem jcl_FN : jcl 0 "OutOrder$FullNet" jT_FN 10 jt_FN := ⟨rfl, rfl, by decide, by decide, by decide, jws_FN, by decide +kernel, by decide +kernel⟩
theorem jws_GO : ∀ w ∈ u_ws "OutOrder$Going" jT_GO 3, w ∈ jtbl := by
  have e : u_ws "OutOrder$Going" jT_GO 3 = ([228, 230, 232] : List Nat).filterMap (fun i => tables_1[i]?) := by decide +kernel
  have g : (u_ws "OutOrder$Going" jT_GO 3).all goodWord = true := by decide +kernel
  intro w hw
  have h1 := List.all_eq_true.mp g w hw
  rw [e] at hw
  obtain ⟨i, -, hi⟩ := List.mem_filterMap.mp hw
  exact jtbl_in i hi h1
theorem jcl_GO : jcl 1 "OutOrder$Going" jT_GO 3 jt_GO := ⟨rfl, rfl, by decide, by decide, by decide, jws_GO, by decide +kernel, by decide +kernel⟩
theorem jws_LE : ∀ w ∈ u_ws "OutOrder$Least" jT_LE 4, w ∈ jtbl := by
  have e : u_ws "OutOrder$Least" jT_LE 4 = ([156, 158, 160, 162] : List Nat).filterMap (fun i => tables_1[i]?) := by decide +kernel
  have g : (u_ws "OutOrder$Least" jT_LE 4).all goodWord = true := by decide +kernel
  intro w hw
  have h1 := List.all_eq_true.mp g w hw
  rw [e] at hw
  obtain ⟨i, -, hi⟩ := List.mem_filterMap.mp hw
  exact jtbl_in i hi h1
theorem jcl_LE : jcl 2 "OutOrder$Least" jT_LE 4 jt_LE := ⟨rfl, rfl, by decide, by decide, by decide, jws_LE, by decide +kernel, by decide +kernel⟩
theorem jws_MO : ∀ w ∈ u_ws "OutOrder$Modulus" jT_MO 1, w ∈ jtbl := by
  have e : u_ws "OutOrder$Modulus" jT_MO 1 = ([40] : List Nat).filterMap (fun i => tables_1[i]?) := by decide +kernel
  have g : (u_ws "OutOrder$Modulus" jT_MO 1).all goodWord = true := by decide +kernel
  intro w hw
  have h1 := List.all_eq_true.mp g w hw
  rw [e] at hw
  obtain ⟨i, -, hi⟩ := List.mem_filterMap.mp hw
  exact jtbl_in i hi h1
theorem jcl_MO : jcl 3 "OutOrder$Modulus" jT_MO 1 jt_MO := ⟨rfl, rfl, by decide, by decide, by decide, jws_MO, by decide +kernel, by decide +kernel⟩
theorem jws_NE : ∀ w ∈ u_ws "OutOrder$Net" jT_NE 3, w ∈ jtbl := by
  have e : u_ws "OutOrder$Net" jT_NE 3 = ([130, 132, 134] : List Nat).filterMap (fun i => tables_1[i]?) := by decide +kernel
  have g : (u_ws "OutOrder$Net" jT_NE 3).all goodWord = true := by decide +kernel
  intro w hw
  have h1 := List.all_eq_true.mp g w hw
  rw [e] at hw
  obtain ⟨i, -, hi⟩ := List.mem_filterMap.mp hw
  exact jtbl_in i hi h1
theorem jcl_NE : jcl 4 "OutOrder$Net" jT_NE 3 jt_NE := ⟨rfl, rfl, by decide, by decide, by decide, jws_NE, by decide +kernel, by decide +kernel⟩
theorem jws_PL : ∀ w ∈ u_ws "OutOrder$Plan" jT_PL 1, w ∈ jtbl := by
  have e : u_ws "OutOrder$Plan" jT_PL 1 = ([273] : List Nat).filterMap (fun i => tables_1[i]?) := by decide +kernel
  have g : (u_ws "OutOrder$Plan" jT_PL 1).all goodWord = true := by decide +kernel
  intro w hw
  have h1 := List.all_eq_true.mp g w hw
  rw [e] at hw
  obtain ⟨i, -, hi⟩ := List.mem_filterMap.mp hw
  exact jtbl_in i hi h1
theorem jcl_PL : jcl 5 "OutOrder$Plan" jT_PL 1 jt_PL := ⟨rfl, rfl, by decide, by decide, by decide, jws_PL, by decide +kernel, by decide +kernel⟩
theorem jws_RO : ∀ w ∈ u_ws "OutOrder$Row" jT_RO 3, w ∈ jtbl := by
  have e : u_ws "OutOrder$Row" jT_RO 3 = ([98, 100, 102] : List Nat).filterMap (fun i => tables_1[i]?) := by decide +kernel
  have g : (u_ws "OutOrder$Row" jT_RO 3).all goodWord = true := by decide +kernel
  intro w hw
  have h1 := List.all_eq_true.mp g w hw
  rw [e] at hw
  obtain ⟨i, -, hi⟩ := List.mem_filterMap.mp hw
  exact jtbl_in i hi h1
theorem jcl_RO : jcl 6 "OutOrder$Row" jT_RO 3 jt_RO := ⟨rfl, rfl, by decide, by decide, by decide, jws_RO, by decide +kernel, by decide +kernel⟩
theorem jws_RU : ∀ w ∈ u_ws "OutOrder$Rules" jT_RU 1, w ∈ jtbl := by
  have e : u_ws "OutOrder$Rules" jT_RU 1 = ([138] : List Nat).filterMap (fun i => tables_1[i]?) := by decide +kernel
  have g : (u_ws "OutOrder$Rules" jT_RU 1).all goodWord = true := by decide +kernel
  intro w hw
  have h1 := List.all_eq_true.mp g w hw
  rw [e] at hw
  obtain ⟨i, -, hi⟩ := List.mem_filterMap.mp hw
  exact jtbl_in i hi h1
theorem jcl_RU : jcl 7 "OutOrder$Rules" jT_RU 1 jt_RU := ⟨rfl, rfl, by decide, by decide, by decide, jws_RU, by decide +kernel, by decide +kernel⟩
theorem jws_TA : ∀ w ∈ u_ws "OutOrder$Table" jT_TA 6, w ∈ jtbl := by
  have e : u_ws "OutOrder$Table" jT_TA 6 = ([68, 70, 72, 74, 76, 78] : List Nat).filterMap (fun i => tables_1[i]?) := by decide +kernel
  have g : (u_ws "OutOrder$Table" jT_TA 6).all goodWord = true := by decide +kernel
  intro w hw
  have h1 := List.all_eq_true.mp g w hw
  rw [e] at hw
  obtain ⟨i, -, hi⟩ := List.mem_filterMap.mp hw
  exact jtbl_in i hi h1
theorem jcl_TA : jcl 8 "OutOrder$Table" jT_TA 6 jt_TA := ⟨rfl, rfl, by decide, by decide, by decide, jws_TA, by decide +kernel, by decide +kernel⟩
theorem jws_WO : ∀ w ∈ u_ws "OutOrder$Work" jT_WO 6, w ∈ jtbl := by
  have e : u_ws "OutOrder$Work" jT_WO 6 = ([252, 254, 256, 258, 260, 262] : List Nat).filterMap (fun i => tables_1[i]?) := by decide +kernel
  have g : (u_ws "OutOrder$Work" jT_WO 6).all goodWord = true := by decide +kernel
  intro w hw
  have h1 := List.all_eq_true.mp g w hw
  rw [e] at hw
  obtain ⟨i, -, hi⟩ := List.mem_filterMap.mp hw
  exact jtbl_in i hi h1
theorem jcl_WO : jcl 9 "OutOrder$Work" jT_WO 6 jt_WO := ⟨rfl, rfl, by decide, by decide, by decide, jws_WO, by decide +kernel, by decide +kernel⟩
theorem jws_OO : ∀ w ∈ u_ws "OutOrder" jT_OO 11, w ∈ jtbl := by
  have e : u_ws "OutOrder" jT_OO 11 = ([323, 325, 327, 329, 331, 333, 335, 337, 339, 341, 343] : List Nat).filterMap (fun i => tables_1[i]?) := by decide +kernel
  have g : (u_ws "OutOrder" jT_OO 11).all goodWord = true := by decide +kernel
  intro w hw
  have h1 := List.all_eq_true.mp g w hw
  rw [e] at hw
  obtain ⟨i, -, hi⟩ := List.mem_filterMap.mp hw
  exact jtbl_in i hi h1
theorem jcl_OO : jcl 10 "OutOrder" jT_OO 11 jt_OO := ⟨rfl, rfl, by decide, by decide, by decide, jws_OO, by decide +kernel, by decide +kernel⟩
theorem jws_MD : ∀ w ∈ u_ws "OutOrderModel" jT_MD 24, w ∈ jtbl := by
  have e : u_ws "OutOrderModel" jT_MD 24 = ([753, 755, 757, 759, 761, 763, 765, 767, 769, 771, 773, 775, 777, 779, 781, 783, 785, 787, 789, 791, 793, 795, 797, 799] : List Nat).filterMap (fun i => tables_1[i]?) := by decide +kernel
  have g : (u_ws "OutOrderModel" jT_MD 24).all goodWord = true := by decide +kernel
  intro w hw
  have h1 := List.all_eq_true.mp g w hw
  rw [e] at hw
  obtain ⟨i, -, hi⟩ := List.mem_filterMap.mp hw
  exact jtbl_in i hi h1
theorem jcl_MD : jcl 11 "OutOrderModel" jT_MD 24 jt_MD := ⟨rfl, rfl, by decide, by decide, by decide, jws_MD, by decide +kernel, by decide +kernel⟩
