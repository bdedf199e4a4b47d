/-! names, out of the listing: classes, words, methods, decode rows (printed by a program: wip/whole/tools/gen_names.py) -/
def k_nc : List Cond := [.not (.castable "java/lang/ArithmeticException" "java/lang/UnsupportedOperationException"), .not (.castable "java/lang/IndexOutOfBoundsException" "java/lang/UnsupportedOperationException"), .not (.castable "java/lang/IllegalStateException" "java/lang/UnsupportedOperationException"), .not (.castable "java/lang/IllegalArgumentException" "java/lang/UnsupportedOperationException"), .not (.castable "java/lang/UnsupportedOperationException" "java/lang/IndexOutOfBoundsException"), .not (.castable "java/lang/ArithmeticException" "java/lang/IndexOutOfBoundsException"), .not (.castable "java/lang/IllegalStateException" "java/lang/IndexOutOfBoundsException"), .not (.castable "java/lang/IllegalArgumentException" "java/lang/IndexOutOfBoundsException"), .not (.castable "java/lang/UnsupportedOperationException" "java/lang/IllegalStateException"), .not (.castable "java/lang/ArithmeticException" "java/lang/IllegalStateException"), .not (.castable "java/lang/IndexOutOfBoundsException" "java/lang/IllegalStateException"), .not (.castable "java/lang/IllegalArgumentException" "java/lang/IllegalStateException"), .not (.castable "java/lang/UnsupportedOperationException" "java/lang/IllegalArgumentException"), .not (.castable "java/lang/ArithmeticException" "java/lang/IllegalArgumentException"), .not (.castable "java/lang/IndexOutOfBoundsException" "java/lang/IllegalArgumentException"), .not (.castable "java/lang/IllegalStateException" "java/lang/IllegalArgumentException"), .not (.castable "java/lang/UnsupportedOperationException" "java/lang/ArithmeticException"), .not (.castable "java/lang/IndexOutOfBoundsException" "java/lang/ArithmeticException"), .not (.castable "java/lang/IllegalStateException" "java/lang/ArithmeticException"), .not (.castable "java/lang/IllegalArgumentException" "java/lang/ArithmeticException")]
/-- the words that every method takes along -/
def k_ws : List Cond := (lw_tbl ++ k_nc).filter z_mv
theorem k_in {w : Cond} (i : Nat) (h : tables_1[i]? = some w) (hm : z_mv w = true) : w ∈ k_ws := List.mem_filter.mpr ⟨List.mem_append_left _ (List.mem_append_right _ (List.mem_of_getElem? h)), hm⟩
theorem k_inp {q : MethodName × Nat} (i : Nat) (h : lw_privs[i]? = some q) : Cond.selects q.1.cls q.1 q.1 ∈ k_ws := List.mem_filter.mpr ⟨List.mem_append_left _ (List.mem_append_left _ (List.mem_map.mpr ⟨q, List.mem_of_getElem? h, rfl⟩)), rfl⟩
theorem k_inn {w : Cond} (i : Nat) (h : k_nc[i]? = some w) (hm : z_mv w = true) : w ∈ k_ws := List.mem_filter.mpr ⟨List.mem_append_right _ (List.mem_of_getElem? h), hm⟩
def R_Row : String := "TypeKernel$Row"
def F_Row : u_T := fun k => match k with
  | 0 => ("TypeKernel$Row", "numbers", "[I", true)
  | _ => ("TypeKernel$Row", "length", "I", false)
def t_Row : Nat → FieldType := fun k => match k with
  | 0 => .array .int
  | _ => .int
theorem n_Row : ∀ a, a < 2 → ∀ b, b < 2 → a ≠ b → (F_Row a).2.1 ≠ (F_Row b).2.1 := by decide +kernel
theorem t_Row_ok : ∀ k, k < 2 → parseFieldDescriptor (F_Row k).2.2.1 = some (t_Row k) := by decide +kernel
theorem k_lay_Row : ∀ w ∈ u_ws R_Row F_Row 2, w ∈ k_ws := by
  show ∀ w ∈ ([(Jvm.Cond.laysFinal "TypeKernel$Row" "TypeKernel$Row" "numbers" "[I"), (Jvm.Cond.lays "TypeKernel$Row" "TypeKernel$Row" "length" "I")] : List Cond), w ∈ k_ws
  exact List.forall_mem_cons.mpr ⟨k_in 47 (by decide +kernel) rfl, List.forall_mem_cons.mpr ⟨k_in 49 (by decide +kernel) rfl, fun _ h => absurd h List.not_mem_nil⟩⟩
def R_Jd : String := "TypeKernel$Judgement"
def F_Jd : u_T := fun k => match k with
  | 0 => ("TypeKernel$Judgement", "term", "LTypeKernel$Row;", true)
  | 1 => ("TypeKernel$Judgement", "itsType", "LTypeKernel$Row;", true)
  | _ => ("TypeKernel$Judgement", "entries", "I", false)
def t_Jd : Nat → FieldType := fun k => match k with
  | 0 => .object "TypeKernel$Row"
  | 1 => .object "TypeKernel$Row"
  | _ => .int
theorem n_Jd : ∀ a, a < 3 → ∀ b, b < 3 → a ≠ b → (F_Jd a).2.1 ≠ (F_Jd b).2.1 := by decide +kernel
theorem t_Jd_ok : ∀ k, k < 3 → parseFieldDescriptor (F_Jd k).2.2.1 = some (t_Jd k) := by decide +kernel
theorem k_lay_Jd : ∀ w ∈ u_ws R_Jd F_Jd 3, w ∈ k_ws := by
  show ∀ w ∈ ([(Jvm.Cond.laysFinal "TypeKernel$Judgement" "TypeKernel$Judgement" "term" "LTypeKernel$Row;"), (Jvm.Cond.laysFinal "TypeKernel$Judgement" "TypeKernel$Judgement" "itsType" "LTypeKernel$Row;"), (Jvm.Cond.lays "TypeKernel$Judgement" "TypeKernel$Judgement" "entries" "I")] : List Cond), w ∈ k_ws
  exact List.forall_mem_cons.mpr ⟨k_in 128 (by decide +kernel) rfl, List.forall_mem_cons.mpr ⟨k_in 130 (by decide +kernel) rfl, List.forall_mem_cons.mpr ⟨k_in 132 (by decide +kernel) rfl, fun _ h => absurd h List.not_mem_nil⟩⟩⟩
def R_Ru : String := "TypeKernel$Rule"
def F_Ru : u_T := fun k => match k with
  | 0 => ("TypeKernel$Rule", "left", "LTypeKernel$Row;", true)
  | 1 => ("TypeKernel$Rule", "right", "LTypeKernel$Row;", true)
  | _ => ("TypeKernel$Rule", "variables", "I", false)
def t_Ru : Nat → FieldType := fun k => match k with
  | 0 => .object "TypeKernel$Row"
  | 1 => .object "TypeKernel$Row"
  | _ => .int
theorem n_Ru : ∀ a, a < 3 → ∀ b, b < 3 → a ≠ b → (F_Ru a).2.1 ≠ (F_Ru b).2.1 := by decide +kernel
theorem t_Ru_ok : ∀ k, k < 3 → parseFieldDescriptor (F_Ru k).2.2.1 = some (t_Ru k) := by decide +kernel
theorem k_lay_Ru : ∀ w ∈ u_ws R_Ru F_Ru 3, w ∈ k_ws := by
  show ∀ w ∈ ([(Jvm.Cond.laysFinal "TypeKernel$Rule" "TypeKernel$Rule" "left" "LTypeKernel$Row;"), (Jvm.Cond.laysFinal "TypeKernel$Rule" "TypeKernel$Rule" "right" "LTypeKernel$Row;"), (Jvm.Cond.lays "TypeKernel$Rule" "TypeKernel$Rule" "variables" "I")] : List Cond), w ∈ k_ws
  exact List.forall_mem_cons.mpr ⟨k_in 83 (by decide +kernel) rfl, List.forall_mem_cons.mpr ⟨k_in 85 (by decide +kernel) rfl, List.forall_mem_cons.mpr ⟨k_in 87 (by decide +kernel) rfl, fun _ h => absurd h List.not_mem_nil⟩⟩⟩
def R_Wk : String := "TypeKernel$Walk"
def F_Wk : u_T := fun k => match k with
  | 0 => ("TypeKernel$Walk", "awaitedDepths", "[I", true)
  | _ => ("TypeKernel$Walk", "awaited", "I", false)
def t_Wk : Nat → FieldType := fun k => match k with
  | 0 => .array .int
  | _ => .int
theorem n_Wk : ∀ a, a < 2 → ∀ b, b < 2 → a ≠ b → (F_Wk a).2.1 ≠ (F_Wk b).2.1 := by decide +kernel
theorem t_Wk_ok : ∀ k, k < 2 → parseFieldDescriptor (F_Wk k).2.2.1 = some (t_Wk k) := by decide +kernel
theorem k_lay_Wk : ∀ w ∈ u_ws R_Wk F_Wk 2, w ∈ k_ws := by
  show ∀ w ∈ ([(Jvm.Cond.laysFinal "TypeKernel$Walk" "TypeKernel$Walk" "awaitedDepths" "[I"), (Jvm.Cond.lays "TypeKernel$Walk" "TypeKernel$Walk" "awaited" "I")] : List Cond), w ∈ k_ws
  exact List.forall_mem_cons.mpr ⟨k_in 62 (by decide +kernel) rfl, List.forall_mem_cons.mpr ⟨k_in 64 (by decide +kernel) rfl, fun _ h => absurd h List.not_mem_nil⟩⟩
def R_Rw : String := "TypeKernel$Rewriter"
def F_Rw : u_T := fun k => match k with
  | 0 => ("TypeKernel$Rewriter", "rules", "[LTypeKernel$Rule;", true)
  | 1 => ("TypeKernel$Rewriter", "ruleCount", "I", false)
  | 2 => ("TypeKernel$Rewriter", "now", "LTypeKernel$Row;", false)
  | 3 => ("TypeKernel$Rewriter", "next", "LTypeKernel$Row;", false)
  | 4 => ("TypeKernel$Rewriter", "matchStarts", "[I", true)
  | 5 => ("TypeKernel$Rewriter", "around", "LTypeKernel$Walk;", true)
  | _ => ("TypeKernel$Rewriter", "inside", "LTypeKernel$Walk;", true)
def t_Rw : Nat → FieldType := fun k => match k with
  | 0 => .array (.object "TypeKernel$Rule")
  | 1 => .int
  | 2 => .object "TypeKernel$Row"
  | 3 => .object "TypeKernel$Row"
  | 4 => .array .int
  | 5 => .object "TypeKernel$Walk"
  | _ => .object "TypeKernel$Walk"
theorem n_Rw : ∀ a, a < 7 → ∀ b, b < 7 → a ≠ b → (F_Rw a).2.1 ≠ (F_Rw b).2.1 := by decide +kernel
theorem t_Rw_ok : ∀ k, k < 7 → parseFieldDescriptor (F_Rw k).2.2.1 = some (t_Rw k) := by decide +kernel
theorem k_lay_Rw : ∀ w ∈ u_ws R_Rw F_Rw 7, w ∈ k_ws := by
  show ∀ w ∈ ([(Jvm.Cond.laysFinal "TypeKernel$Rewriter" "TypeKernel$Rewriter" "rules" "[LTypeKernel$Rule;"), (Jvm.Cond.lays "TypeKernel$Rewriter" "TypeKernel$Rewriter" "ruleCount" "I"), (Jvm.Cond.lays "TypeKernel$Rewriter" "TypeKernel$Rewriter" "now" "LTypeKernel$Row;"), (Jvm.Cond.lays "TypeKernel$Rewriter" "TypeKernel$Rewriter" "next" "LTypeKernel$Row;"), (Jvm.Cond.laysFinal "TypeKernel$Rewriter" "TypeKernel$Rewriter" "matchStarts" "[I"), (Jvm.Cond.laysFinal "TypeKernel$Rewriter" "TypeKernel$Rewriter" "around" "LTypeKernel$Walk;"), (Jvm.Cond.laysFinal "TypeKernel$Rewriter" "TypeKernel$Rewriter" "inside" "LTypeKernel$Walk;")] : List Cond), w ∈ k_ws
  exact List.forall_mem_cons.mpr ⟨k_in 99 (by decide +kernel) rfl, List.forall_mem_cons.mpr ⟨k_in 101 (by decide +kernel) rfl, List.forall_mem_cons.mpr ⟨k_in 103 (by decide +kernel) rfl, List.forall_mem_cons.mpr ⟨k_in 105 (by decide +kernel) rfl, List.forall_mem_cons.mpr ⟨k_in 107 (by decide +kernel) rfl, List.forall_mem_cons.mpr ⟨k_in 109 (by decide +kernel) rfl, List.forall_mem_cons.mpr ⟨k_in 111 (by decide +kernel) rfl, fun _ h => absurd h List.not_mem_nil⟩⟩⟩⟩⟩⟩⟩
def R_TK : String := "TypeKernel"
def F_TK : u_T := fun k => match k with
  | 0 => ("TypeKernel", "stack", "[LTypeKernel$Judgement;", true)
  | 1 => ("TypeKernel", "judgementCount", "I", false)
  | 2 => ("TypeKernel", "context", "[LTypeKernel$Row;", true)
  | 3 => ("TypeKernel", "entryCount", "I", false)
  | 4 => ("TypeKernel", "constantTypes", "[LTypeKernel$Row;", true)
  | 5 => ("TypeKernel", "isDefinable", "[Z", true)
  | 6 => ("TypeKernel", "constantCount", "I", false)
  | 7 => ("TypeKernel", "rewriter", "LTypeKernel$Rewriter;", true)
  | 8 => ("TypeKernel", "lowerForm", "LTypeKernel$Row;", true)
  | 9 => ("TypeKernel", "upperForm", "LTypeKernel$Row;", true)
  | 10 => ("TypeKernel", "newTerm", "LTypeKernel$Row;", true)
  | _ => ("TypeKernel", "newType", "LTypeKernel$Row;", true)
def t_TK : Nat → FieldType := fun k => match k with
  | 0 => .array (.object "TypeKernel$Judgement")
  | 1 => .int
  | 2 => .array (.object "TypeKernel$Row")
  | 3 => .int
  | 4 => .array (.object "TypeKernel$Row")
  | 5 => .array .boolean
  | 6 => .int
  | 7 => .object "TypeKernel$Rewriter"
  | 8 => .object "TypeKernel$Row"
  | 9 => .object "TypeKernel$Row"
  | 10 => .object "TypeKernel$Row"
  | _ => .object "TypeKernel$Row"
theorem n_TK : ∀ a, a < 12 → ∀ b, b < 12 → a ≠ b → (F_TK a).2.1 ≠ (F_TK b).2.1 := by decide +kernel
theorem t_TK_ok : ∀ k, k < 12 → parseFieldDescriptor (F_TK k).2.2.1 = some (t_TK k) := by decide +kernel
theorem k_lay_TK : ∀ w ∈ u_ws R_TK F_TK 12, w ∈ k_ws := by
  show ∀ w ∈ ([(Jvm.Cond.laysFinal "TypeKernel" "TypeKernel" "stack" "[LTypeKernel$Judgement;"), (Jvm.Cond.lays "TypeKernel" "TypeKernel" "judgementCount" "I"), (Jvm.Cond.laysFinal "TypeKernel" "TypeKernel" "context" "[LTypeKernel$Row;"), (Jvm.Cond.lays "TypeKernel" "TypeKernel" "entryCount" "I"), (Jvm.Cond.laysFinal "TypeKernel" "TypeKernel" "constantTypes" "[LTypeKernel$Row;"), (Jvm.Cond.laysFinal "TypeKernel" "TypeKernel" "isDefinable" "[Z"), (Jvm.Cond.lays "TypeKernel" "TypeKernel" "constantCount" "I"), (Jvm.Cond.laysFinal "TypeKernel" "TypeKernel" "rewriter" "LTypeKernel$Rewriter;"), (Jvm.Cond.laysFinal "TypeKernel" "TypeKernel" "lowerForm" "LTypeKernel$Row;"), (Jvm.Cond.laysFinal "TypeKernel" "TypeKernel" "upperForm" "LTypeKernel$Row;"), (Jvm.Cond.laysFinal "TypeKernel" "TypeKernel" "newTerm" "LTypeKernel$Row;"), (Jvm.Cond.laysFinal "TypeKernel" "TypeKernel" "newType" "LTypeKernel$Row;")] : List Cond), w ∈ k_ws
  exact List.forall_mem_cons.mpr ⟨k_in 147 (by decide +kernel) rfl, List.forall_mem_cons.mpr ⟨k_in 149 (by decide +kernel) rfl, List.forall_mem_cons.mpr ⟨k_in 151 (by decide +kernel) rfl, List.forall_mem_cons.mpr ⟨k_in 153 (by decide +kernel) rfl, List.forall_mem_cons.mpr ⟨k_in 155 (by decide +kernel) rfl, List.forall_mem_cons.mpr ⟨k_in 157 (by decide +kernel) rfl, List.forall_mem_cons.mpr ⟨k_in 159 (by decide +kernel) rfl, List.forall_mem_cons.mpr ⟨k_in 161 (by decide +kernel) rfl, List.forall_mem_cons.mpr ⟨k_in 163 (by decide +kernel) rfl, List.forall_mem_cons.mpr ⟨k_in 165 (by decide +kernel) rfl, List.forall_mem_cons.mpr ⟨k_in 167 (by decide +kernel) rfl, List.forall_mem_cons.mpr ⟨k_in 169 (by decide +kernel) rfl, fun _ h => absurd h List.not_mem_nil⟩⟩⟩⟩⟩⟩⟩⟩⟩⟩⟩⟩
def R_Md : String := "TypeKernelModel"
def F_Md : u_T := fun k => match k with
  | 0 => ("TypeKernelModel", "thrown", "I", false)
  | 1 => ("TypeKernelModel", "cells", "[I", true)
  | 2 => ("TypeKernelModel", "size", "[I", true)
  | 3 => ("TypeKernelModel", "stack", "I", false)
  | 4 => ("TypeKernelModel", "madeWith", "[I", true)
  | 5 => ("TypeKernelModel", "context", "I", false)
  | 6 => ("TypeKernelModel", "constants", "I", false)
  | 7 => ("TypeKernelModel", "definable", "[Z", true)
  | 8 => ("TypeKernelModel", "rules", "I", false)
  | 9 => ("TypeKernelModel", "variables", "[I", true)
  | 10 => ("TypeKernelModel", "tooLong", "Z", false)
  | 11 => ("TypeKernelModel", "depth", "[I", true)
  | 12 => ("TypeKernelModel", "depthRight", "[I", true)
  | 13 => ("TypeKernelModel", "pending", "[I", true)
  | 14 => ("TypeKernelModel", "from", "[I", true)
  | _ => ("TypeKernelModel", "to", "[I", true)
def t_Md : Nat → FieldType := fun k => match k with
  | 0 => .int
  | 1 => .array .int
  | 2 => .array .int
  | 3 => .int
  | 4 => .array .int
  | 5 => .int
  | 6 => .int
  | 7 => .array .boolean
  | 8 => .int
  | 9 => .array .int
  | 10 => .boolean
  | 11 => .array .int
  | 12 => .array .int
  | 13 => .array .int
  | 14 => .array .int
  | _ => .array .int
theorem n_Md : ∀ a, a < 16 → ∀ b, b < 16 → a ≠ b → (F_Md a).2.1 ≠ (F_Md b).2.1 := by decide +kernel
theorem t_Md_ok : ∀ k, k < 16 → parseFieldDescriptor (F_Md k).2.2.1 = some (t_Md k) := by decide +kernel
theorem k_lay_Md : ∀ w ∈ u_ws R_Md F_Md 16, w ∈ k_ws := by
  show ∀ w ∈ ([(Jvm.Cond.lays "TypeKernelModel" "TypeKernelModel" "thrown" "I"), (Jvm.Cond.laysFinal "TypeKernelModel" "TypeKernelModel" "cells" "[I"), (Jvm.Cond.laysFinal "TypeKernelModel" "TypeKernelModel" "size" "[I"), (Jvm.Cond.lays "TypeKernelModel" "TypeKernelModel" "stack" "I"), (Jvm.Cond.laysFinal "TypeKernelModel" "TypeKernelModel" "madeWith" "[I"), (Jvm.Cond.lays "TypeKernelModel" "TypeKernelModel" "context" "I"), (Jvm.Cond.lays "TypeKernelModel" "TypeKernelModel" "constants" "I"), (Jvm.Cond.laysFinal "TypeKernelModel" "TypeKernelModel" "definable" "[Z"), (Jvm.Cond.lays "TypeKernelModel" "TypeKernelModel" "rules" "I"), (Jvm.Cond.laysFinal "TypeKernelModel" "TypeKernelModel" "variables" "[I"), (Jvm.Cond.lays "TypeKernelModel" "TypeKernelModel" "tooLong" "Z"), (Jvm.Cond.laysFinal "TypeKernelModel" "TypeKernelModel" "depth" "[I"), (Jvm.Cond.laysFinal "TypeKernelModel" "TypeKernelModel" "depthRight" "[I"), (Jvm.Cond.laysFinal "TypeKernelModel" "TypeKernelModel" "pending" "[I"), (Jvm.Cond.laysFinal "TypeKernelModel" "TypeKernelModel" "from" "[I"), (Jvm.Cond.laysFinal "TypeKernelModel" "TypeKernelModel" "to" "[I")] : List Cond), w ∈ k_ws
  exact List.forall_mem_cons.mpr ⟨k_in 611 (by decide +kernel) rfl, List.forall_mem_cons.mpr ⟨k_in 613 (by decide +kernel) rfl, List.forall_mem_cons.mpr ⟨k_in 615 (by decide +kernel) rfl, List.forall_mem_cons.mpr ⟨k_in 617 (by decide +kernel) rfl, List.forall_mem_cons.mpr ⟨k_in 619 (by decide +kernel) rfl, List.forall_mem_cons.mpr ⟨k_in 621 (by decide +kernel) rfl, List.forall_mem_cons.mpr ⟨k_in 623 (by decide +kernel) rfl, List.forall_mem_cons.mpr ⟨k_in 625 (by decide +kernel) rfl, List.forall_mem_cons.mpr ⟨k_in 627 (by decide +kernel) rfl, List.forall_mem_cons.mpr ⟨k_in 629 (by decide +kernel) rfl, List.forall_mem_cons.mpr ⟨k_in 631 (by decide +kernel) rfl, List.forall_mem_cons.mpr ⟨k_in 633 (by decide +kernel) rfl, List.forall_mem_cons.mpr ⟨k_in 635 (by decide +kernel) rfl, List.forall_mem_cons.mpr ⟨k_in 637 (by decide +kernel) rfl, List.forall_mem_cons.mpr ⟨k_in 639 (by decide +kernel) rfl, List.forall_mem_cons.mpr ⟨k_in 641 (by decide +kernel) rfl, fun _ h => absurd h List.not_mem_nil⟩⟩⟩⟩⟩⟩⟩⟩⟩⟩⟩⟩⟩⟩⟩⟩
abbrev k_cl : List vw_C := [(R_Row, F_Row, 2), (R_Jd, F_Jd, 3), (R_Ru, F_Ru, 3), (R_Wk, F_Wk, 2), (R_Rw, F_Rw, 7), (R_TK, F_TK, 12), (R_Md, F_Md, 16)]
/-- the constants of this claim -/
def z_ok (G : z_G) : Prop := G.Ts = k_ws ∧ G.cl = k_cl ∧ (G.cc = 1000 ∧ G.ss = 20000) ∧ ∃ c0 c1 c2 c3 c4 c5 : ClassId, G.tys = [(c0, .int), (c1, .long), (c2, .boolean), (c3, .object "TypeKernel$Row"), (c4, .object "TypeKernel$Judgement"), (c5, .object "TypeKernel$Rule")]
section ZN
variable {G : z_G}
theorem z_ok.mem (HG : z_ok G) {w : Cond} (h : w ∈ k_ws) : w ∈ G.Ts := by rw [HG.1]; exact h
theorem ty0 (HG : z_ok G) : G.tys[0]? = some (G.ca 0, .int) := by
  obtain ⟨-, -, -, c0, c1, c2, c3, c4, c5, h⟩ := HG
  simp [z_G.ca, h]
theorem ty1 (HG : z_ok G) : G.tys[1]? = some (G.ca 1, .long) := by
  obtain ⟨-, -, -, c0, c1, c2, c3, c4, c5, h⟩ := HG
  simp [z_G.ca, h]
theorem ty2 (HG : z_ok G) : G.tys[2]? = some (G.ca 2, .boolean) := by
  obtain ⟨-, -, -, c0, c1, c2, c3, c4, c5, h⟩ := HG
  simp [z_G.ca, h]
theorem ty3 (HG : z_ok G) : G.tys[3]? = some (G.ca 3, .object "TypeKernel$Row") := by
  obtain ⟨-, -, -, c0, c1, c2, c3, c4, c5, h⟩ := HG
  simp [z_G.ca, h]
theorem ty4 (HG : z_ok G) : G.tys[4]? = some (G.ca 4, .object "TypeKernel$Judgement") := by
  obtain ⟨-, -, -, c0, c1, c2, c3, c4, c5, h⟩ := HG
  simp [z_G.ca, h]
theorem ty5 (HG : z_ok G) : G.tys[5]? = some (G.ca 5, .object "TypeKernel$Rule") := by
  obtain ⟨-, -, -, c0, c1, c2, c3, c4, c5, h⟩ := HG
  simp [z_G.ca, h]
theorem cl_Row (HG : z_ok G) : G.cl[0]? = some (R_Row, F_Row, 2) := by rw [HG.2.1]; rfl
theorem K_Row (HG : z_ok G) : z_cls G 0 R_Row F_Row 2 t_Row := ⟨cl_Row HG, fun w h => HG.mem (k_lay_Row w h), t_Row_ok, n_Row⟩
theorem cl_Jd (HG : z_ok G) : G.cl[1]? = some (R_Jd, F_Jd, 3) := by rw [HG.2.1]; rfl
theorem K_Jd (HG : z_ok G) : z_cls G 1 R_Jd F_Jd 3 t_Jd := ⟨cl_Jd HG, fun w h => HG.mem (k_lay_Jd w h), t_Jd_ok, n_Jd⟩
theorem cl_Ru (HG : z_ok G) : G.cl[2]? = some (R_Ru, F_Ru, 3) := by rw [HG.2.1]; rfl
theorem K_Ru (HG : z_ok G) : z_cls G 2 R_Ru F_Ru 3 t_Ru := ⟨cl_Ru HG, fun w h => HG.mem (k_lay_Ru w h), t_Ru_ok, n_Ru⟩
theorem cl_Wk (HG : z_ok G) : G.cl[3]? = some (R_Wk, F_Wk, 2) := by rw [HG.2.1]; rfl
theorem K_Wk (HG : z_ok G) : z_cls G 3 R_Wk F_Wk 2 t_Wk := ⟨cl_Wk HG, fun w h => HG.mem (k_lay_Wk w h), t_Wk_ok, n_Wk⟩
theorem cl_Rw (HG : z_ok G) : G.cl[4]? = some (R_Rw, F_Rw, 7) := by rw [HG.2.1]; rfl
theorem K_Rw (HG : z_ok G) : z_cls G 4 R_Rw F_Rw 7 t_Rw := ⟨cl_Rw HG, fun w h => HG.mem (k_lay_Rw w h), t_Rw_ok, n_Rw⟩
theorem cl_TK (HG : z_ok G) : G.cl[5]? = some (R_TK, F_TK, 12) := by rw [HG.2.1]; rfl
theorem K_TK (HG : z_ok G) : z_cls G 5 R_TK F_TK 12 t_TK := ⟨cl_TK HG, fun w h => HG.mem (k_lay_TK w h), t_TK_ok, n_TK⟩
theorem cl_Md (HG : z_ok G) : G.cl[6]? = some (R_Md, F_Md, 16) := by rw [HG.2.1]; rfl
theorem K_Md (HG : z_ok G) : z_cls G 6 R_Md F_Md 16 t_Md := ⟨cl_Md HG, fun w h => HG.mem (k_lay_Md w h), t_Md_ok, n_Md⟩
abbrev m_TK_init : z_M := (({ cls := "TypeKernel", name := "<init>", desc := "()V" } : Jvm.MethodName), prog_1_method_1_code, 2, (Option.none : Option Jvm.ClassFile.FieldType), [])
theorem cd_TK_init (HG : z_ok G) : z_cd G m_TK_init := Or.inl ⟨rfl, HG.mem (k_in 21 (by decide +kernel) rfl)⟩
abbrev m_Rw_init : z_M := (({ cls := "TypeKernel$Rewriter", name := "<init>", desc := "()V" } : Jvm.MethodName), prog_3_method_1_code, 2, (Option.none : Option Jvm.ClassFile.FieldType), [])
theorem cd_Rw_init (HG : z_ok G) : z_cd G m_Rw_init := Or.inl ⟨rfl, HG.mem (k_in 33 (by decide +kernel) rfl)⟩
abbrev m_Row_init : z_M := (({ cls := "TypeKernel$Row", name := "<init>", desc := "()V" } : Jvm.MethodName), prog_4_method_1_code, 1, (Option.none : Option Jvm.ClassFile.FieldType), [])
theorem cd_Row_init (HG : z_ok G) : z_cd G m_Row_init := Or.inl ⟨rfl, HG.mem (k_in 41 (by decide +kernel) rfl)⟩
abbrev m_Wk_init : z_M := (({ cls := "TypeKernel$Walk", name := "<init>", desc := "()V" } : Jvm.MethodName), prog_6_method_1_code, 1, (Option.none : Option Jvm.ClassFile.FieldType), [])
theorem cd_Wk_init (HG : z_ok G) : z_cd G m_Wk_init := Or.inl ⟨rfl, HG.mem (k_in 58 (by decide +kernel) rfl)⟩
abbrev m_Ru_init : z_M := (({ cls := "TypeKernel$Rule", name := "<init>", desc := "()V" } : Jvm.MethodName), prog_5_method_1_code, 1, (Option.none : Option Jvm.ClassFile.FieldType), [])
theorem cd_Ru_init (HG : z_ok G) : z_cd G m_Ru_init := Or.inl ⟨rfl, HG.mem (k_in 70 (by decide +kernel) rfl)⟩
abbrev m_Jd_init : z_M := (({ cls := "TypeKernel$Judgement", name := "<init>", desc := "()V" } : Jvm.MethodName), prog_2_method_1_code, 1, (Option.none : Option Jvm.ClassFile.FieldType), [])
theorem cd_Jd_init (HG : z_ok G) : z_cd G m_Jd_init := Or.inl ⟨rfl, HG.mem (k_in 118 (by decide +kernel) rfl)⟩
abbrev m_TK_drop : z_M := (({ cls := "TypeKernel", name := "drop", desc := "()Z" } : Jvm.MethodName), prog_1_method_13_code, 1, (Option.some Jvm.ClassFile.FieldType.boolean), [])
theorem cd_TK_drop (HG : z_ok G) : z_cd G m_TK_drop := Or.inl ⟨rfl, HG.mem (k_in 175 (by decide +kernel) rfl)⟩
abbrev m_TK_leave : z_M := (({ cls := "TypeKernel", name := "leave", desc := "()Z" } : Jvm.MethodName), prog_1_method_14_code, 1, (Option.some Jvm.ClassFile.FieldType.boolean), [])
theorem cd_TK_leave (HG : z_ok G) : z_cd G m_TK_leave := Or.inl ⟨rfl, HG.mem (k_in 179 (by decide +kernel) rfl)⟩
abbrev m_TK_presentCount : z_M := (({ cls := "TypeKernel", name := "presentCount", desc := "()I" } : Jvm.MethodName), prog_1_method_30_code, 3, (Option.some Jvm.ClassFile.FieldType.int), [])
theorem cd_TK_presentCount (HG : z_ok G) : z_cd G m_TK_presentCount := Or.inl ⟨rfl, HG.mem (k_in 183 (by decide +kernel) rfl)⟩
abbrev m_TK_counts : z_M := (({ cls := "TypeKernel", name := "counts", desc := "()I" } : Jvm.MethodName), prog_1_method_15_code, 1, (Option.some Jvm.ClassFile.FieldType.int), [])
theorem cd_TK_counts (HG : z_ok G) : z_cd G m_TK_counts := Or.inl ⟨rfl, HG.mem (k_in 187 (by decide +kernel) rfl)⟩
abbrev m_TK_judgement : z_M := (({ cls := "TypeKernel", name := "judgement", desc := "(IZI)I" } : Jvm.MethodName), prog_1_method_16_code, 5, (Option.some Jvm.ClassFile.FieldType.int), [])
theorem cd_TK_judgement (HG : z_ok G) : z_cd G m_TK_judgement := Or.inl ⟨rfl, HG.mem (k_in 191 (by decide +kernel) rfl)⟩
abbrev m_TK_isJudgement : z_M := (({ cls := "TypeKernel", name := "isJudgement", desc := "(I)Z" } : Jvm.MethodName), prog_1_method_23_code, 2, (Option.some Jvm.ClassFile.FieldType.boolean), [])
theorem cd_TK_isJudgement (HG : z_ok G) : z_cd G m_TK_isJudgement := Or.inl ⟨rfl, HG.mem (k_in 195 (by decide +kernel) rfl)⟩
abbrev m_TK_judgementAt : z_M := (({ cls := "TypeKernel", name := "judgementAt", desc := "(I)LTypeKernel$Judgement;" } : Jvm.MethodName), prog_1_method_25_code, 2, (Option.some (Jvm.ClassFile.FieldType.object "TypeKernel$Judgement")), [])
theorem cd_TK_judgementAt (HG : z_ok G) : z_cd G m_TK_judgementAt := Or.inl ⟨rfl, HG.mem (k_in 199 (by decide +kernel) rfl)⟩
abbrev m_Row_at : z_M := (({ cls := "TypeKernel$Row", name := "at", desc := "(I)I" } : Jvm.MethodName), prog_4_method_2_code, 2, (Option.some Jvm.ClassFile.FieldType.int), [])
theorem cd_Row_at (HG : z_ok G) : z_cd G m_Row_at := Or.inl ⟨rfl, HG.mem (k_in 203 (by decide +kernel) rfl)⟩
abbrev m_TK_made : z_M := (({ cls := "TypeKernel", name := "made", desc := "(I)I" } : Jvm.MethodName), prog_1_method_17_code, 2, (Option.some Jvm.ClassFile.FieldType.int), [])
theorem cd_TK_made (HG : z_ok G) : z_cd G m_TK_made := Or.inl ⟨rfl, HG.mem (k_in 207 (by decide +kernel) rfl)⟩
abbrev m_TK_entry : z_M := (({ cls := "TypeKernel", name := "entry", desc := "(II)I" } : Jvm.MethodName), prog_1_method_18_code, 3, (Option.some Jvm.ClassFile.FieldType.int), [])
theorem cd_TK_entry (HG : z_ok G) : z_cd G m_TK_entry := Or.inl ⟨rfl, HG.mem (k_in 211 (by decide +kernel) rfl)⟩
abbrev m_TK_isEntry : z_M := (({ cls := "TypeKernel", name := "isEntry", desc := "(I)Z" } : Jvm.MethodName), prog_1_method_22_code, 2, (Option.some Jvm.ClassFile.FieldType.boolean), [])
theorem cd_TK_isEntry (HG : z_ok G) : z_cd G m_TK_isEntry := Or.inl ⟨rfl, HG.mem (k_in 215 (by decide +kernel) rfl)⟩
abbrev m_TK_entryAt : z_M := (({ cls := "TypeKernel", name := "entryAt", desc := "(I)LTypeKernel$Row;" } : Jvm.MethodName), prog_1_method_24_code, 2, (Option.some (Jvm.ClassFile.FieldType.object "TypeKernel$Row")), [])
theorem cd_TK_entryAt (HG : z_ok G) : z_cd G m_TK_entryAt := Or.inl ⟨rfl, HG.mem (k_in 219 (by decide +kernel) rfl)⟩
abbrev m_TK_type : z_M := (({ cls := "TypeKernel", name := "type", desc := "(II)I" } : Jvm.MethodName), prog_1_method_19_code, 3, (Option.some Jvm.ClassFile.FieldType.int), [])
theorem cd_TK_type (HG : z_ok G) : z_cd G m_TK_type := Or.inl ⟨rfl, HG.mem (k_in 223 (by decide +kernel) rfl)⟩
abbrev m_TK_isConstant : z_M := (({ cls := "TypeKernel", name := "isConstant", desc := "(I)Z" } : Jvm.MethodName), prog_1_method_21_code, 2, (Option.some Jvm.ClassFile.FieldType.boolean), [])
theorem cd_TK_isConstant (HG : z_ok G) : z_cd G m_TK_isConstant := Or.inl ⟨rfl, HG.mem (k_in 227 (by decide +kernel) rfl)⟩
abbrev m_TK_side : z_M := (({ cls := "TypeKernel", name := "side", desc := "(IZI)I" } : Jvm.MethodName), prog_1_method_20_code, 5, (Option.some Jvm.ClassFile.FieldType.int), [])
theorem cd_TK_side (HG : z_ok G) : z_cd G m_TK_side := Or.inl ⟨rfl, HG.mem (k_in 231 (by decide +kernel) rfl)⟩
abbrev m_Lw_sort : z_M := (({ cls := "TypeKernelLaw", name := "sort", desc := "(LTypeKernel;)I" } : Jvm.MethodName), method_3_code, 2, (Option.some Jvm.ClassFile.FieldType.int), [((0 : Nat), (4 : Nat), (7 : Nat), (12 : Nat))])
theorem cd_Lw_sort (HG : z_ok G) : z_cd G m_Lw_sort := Or.inr (HG.mem (k_in 234 (by decide +kernel) rfl))
abbrev m_TK_sort : z_M := (({ cls := "TypeKernel", name := "sort", desc := "()V" } : Jvm.MethodName), prog_1_method_2_code, 2, (Option.none : Option Jvm.ClassFile.FieldType), [])
theorem cd_TK_sort (HG : z_ok G) : z_cd G m_TK_sort := Or.inl ⟨rfl, HG.mem (k_in 239 (by decide +kernel) rfl)⟩
abbrev m_TK_addJudgement : z_M := (({ cls := "TypeKernel", name := "addJudgement", desc := "()LTypeKernel$Judgement;" } : Jvm.MethodName), prog_1_method_26_code, 2, (Option.some (Jvm.ClassFile.FieldType.object "TypeKernel$Judgement")), [])
theorem cd_TK_addJudgement (HG : z_ok G) : z_cd G m_TK_addJudgement := Or.inl ⟨rfl, HG.mem (k_in 243 (by decide +kernel) rfl)⟩
abbrev m_Row_become : z_M := (({ cls := "TypeKernel$Row", name := "become", desc := "(I)V" } : Jvm.MethodName), prog_4_method_7_code, 2, (Option.none : Option Jvm.ClassFile.FieldType), [])
theorem cd_Row_become (HG : z_ok G) : z_cd G m_Row_become := Or.inl ⟨rfl, HG.mem (k_in 312 (by decide +kernel) rfl)⟩
abbrev m_Row_clear : z_M := (({ cls := "TypeKernel$Row", name := "clear", desc := "()V" } : Jvm.MethodName), prog_4_method_4_code, 1, (Option.none : Option Jvm.ClassFile.FieldType), [])
theorem cd_Row_clear (HG : z_ok G) : z_cd G m_Row_clear := Or.inl ⟨rfl, HG.mem (k_in 316 (by decide +kernel) rfl)⟩
abbrev m_Row_append : z_M := (({ cls := "TypeKernel$Row", name := "append", desc := "(I)V" } : Jvm.MethodName), prog_4_method_5_code, 2, (Option.none : Option Jvm.ClassFile.FieldType), [])
theorem cd_Row_append (HG : z_ok G) : z_cd G m_Row_append := Or.inl ⟨rfl, HG.mem (k_in 320 (by decide +kernel) rfl)⟩
abbrev m_Lw_constant : z_M := (({ cls := "TypeKernelLaw", name := "constant", desc := "(LTypeKernel;I)I" } : Jvm.MethodName), method_4_code, 3, (Option.some Jvm.ClassFile.FieldType.int), [((0 : Nat), (5 : Nat), (8 : Nat), (18 : Nat)), ((0 : Nat), (5 : Nat), (11 : Nat), (12 : Nat))])
theorem cd_Lw_constant (HG : z_ok G) : z_cd G m_Lw_constant := Or.inr (HG.mem (k_in 338 (by decide +kernel) rfl))
abbrev m_TK_constant : z_M := (({ cls := "TypeKernel", name := "constant", desc := "(I)V" } : Jvm.MethodName), prog_1_method_3_code, 3, (Option.none : Option Jvm.ClassFile.FieldType), [])
theorem cd_TK_constant (HG : z_ok G) : z_cd G m_TK_constant := Or.inl ⟨rfl, HG.mem (k_in 343 (by decide +kernel) rfl)⟩
abbrev m_Row_copy : z_M := (({ cls := "TypeKernel$Row", name := "copy", desc := "(LTypeKernel$Row;)V" } : Jvm.MethodName), prog_4_method_8_code, 2, (Option.none : Option Jvm.ClassFile.FieldType), [])
theorem cd_Row_copy (HG : z_ok G) : z_cd G m_Row_copy := Or.inl ⟨rfl, HG.mem (k_in 362 (by decide +kernel) rfl)⟩
abbrev m_Lw_variable : z_M := (({ cls := "TypeKernelLaw", name := "variable", desc := "(LTypeKernel;I)I" } : Jvm.MethodName), method_5_code, 3, (Option.some Jvm.ClassFile.FieldType.int), [((0 : Nat), (5 : Nat), (8 : Nat), (18 : Nat)), ((0 : Nat), (5 : Nat), (11 : Nat), (12 : Nat))])
theorem cd_Lw_variable (HG : z_ok G) : z_cd G m_Lw_variable := Or.inr (HG.mem (k_in 368 (by decide +kernel) rfl))
abbrev m_TK_variable : z_M := (({ cls := "TypeKernel", name := "variable", desc := "(I)V" } : Jvm.MethodName), prog_1_method_4_code, 3, (Option.none : Option Jvm.ClassFile.FieldType), [])
theorem cd_TK_variable (HG : z_ok G) : z_cd G m_TK_variable := Or.inl ⟨rfl, HG.mem (k_in 372 (by decide +kernel) rfl)⟩
abbrev m_Rw_appendLifted : z_M := (({ cls := "TypeKernel$Rewriter", name := "appendLifted", desc := "(LTypeKernel$Row;IILTypeKernel$Row;)V" } : Jvm.MethodName), prog_3_method_11_code, 8, (Option.none : Option Jvm.ClassFile.FieldType), [])
theorem cd_Rw_appendLifted (HG : z_ok G) : z_cd G m_Rw_appendLifted := Or.inl ⟨rfl, HG.mem (k_in 377 (by decide +kernel) rfl)⟩
abbrev m_Wk_begin : z_M := (({ cls := "TypeKernel$Walk", name := "begin", desc := "()V" } : Jvm.MethodName), prog_6_method_2_code, 1, (Option.none : Option Jvm.ClassFile.FieldType), [])
theorem cd_Wk_begin (HG : z_ok G) : z_cd G m_Wk_begin := Or.inl ⟨rfl, HG.mem (k_in 381 (by decide +kernel) rfl)⟩
abbrev m_Wk_goesOn : z_M := (({ cls := "TypeKernel$Walk", name := "goesOn", desc := "()Z" } : Jvm.MethodName), prog_6_method_3_code, 1, (Option.some Jvm.ClassFile.FieldType.boolean), [])
theorem cd_Wk_goesOn (HG : z_ok G) : z_cd G m_Wk_goesOn := Or.inl ⟨rfl, HG.mem (k_in 385 (by decide +kernel) rfl)⟩
abbrev m_Wk_depthOf : z_M := (({ cls := "TypeKernel$Walk", name := "depthOf", desc := "(I)I" } : Jvm.MethodName), prog_6_method_4_code, 3, (Option.some Jvm.ClassFile.FieldType.int), [])
theorem cd_Wk_depthOf (HG : z_ok G) : z_cd G m_Wk_depthOf := Or.inl ⟨rfl, HG.mem (k_in 390 (by decide +kernel) rfl)⟩
abbrev m_Lw_apply : z_M := (({ cls := "TypeKernelLaw", name := "apply", desc := "(LTypeKernel;)I" } : Jvm.MethodName), method_6_code, 2, (Option.some Jvm.ClassFile.FieldType.int), [((0 : Nat), (4 : Nat), (7 : Nat), (26 : Nat)), ((0 : Nat), (4 : Nat), (10 : Nat), (28 : Nat)), ((0 : Nat), (4 : Nat), (13 : Nat), (30 : Nat))])
theorem cd_Lw_apply (HG : z_ok G) : z_cd G m_Lw_apply := Or.inr (HG.mem (k_in 394 (by decide +kernel) rfl))
abbrev m_TK_apply : z_M := (({ cls := "TypeKernel", name := "apply", desc := "()V" } : Jvm.MethodName), prog_1_method_5_code, 4, (Option.none : Option Jvm.ClassFile.FieldType), [])
theorem cd_TK_apply (HG : z_ok G) : z_cd G m_TK_apply := Or.inl ⟨rfl, HG.mem (k_in 401 (by decide +kernel) rfl)⟩
abbrev m_TK_presentJudgement : z_M := (({ cls := "TypeKernel", name := "presentJudgement", desc := "(I)LTypeKernel$Judgement;" } : Jvm.MethodName), prog_1_method_28_code, 3, (Option.some (Jvm.ClassFile.FieldType.object "TypeKernel$Judgement")), [])
theorem cd_TK_presentJudgement (HG : z_ok G) : z_cd G m_TK_presentJudgement := Or.inl ⟨rfl, HG.mem (k_in 405 (by decide +kernel) rfl)⟩
abbrev m_TK_neededJudgement : z_M := (({ cls := "TypeKernel", name := "neededJudgement", desc := "(I)LTypeKernel$Judgement;" } : Jvm.MethodName), prog_1_method_27_code, 2, (Option.some (Jvm.ClassFile.FieldType.object "TypeKernel$Judgement")), [])
theorem cd_TK_neededJudgement (HG : z_ok G) : z_cd G m_TK_neededJudgement := Or.inl ⟨rfl, HG.mem (k_in 409 (by decide +kernel) rfl)⟩
abbrev m_Rw_normalize : z_M := (({ cls := "TypeKernel$Rewriter", name := "normalize", desc := "(LTypeKernel$Row;LTypeKernel$Row;)I" } : Jvm.MethodName), prog_3_method_3_code, 4, (Option.some Jvm.ClassFile.FieldType.int), [])
theorem cd_Rw_normalize (HG : z_ok G) : z_cd G m_Rw_normalize := Or.inl ⟨rfl, HG.mem (k_in 428 (by decide +kernel) rfl)⟩
abbrev m_Rw_step : z_M := (({ cls := "TypeKernel$Rewriter", name := "step", desc := "()Z" } : Jvm.MethodName), prog_3_method_4_code, 3, (Option.some Jvm.ClassFile.FieldType.boolean), [])
theorem cd_Rw_step (HG : z_ok G) : z_cd G m_Rw_step := Or.inl ⟨rfl, HG.mem (k_in 433 (by decide +kernel) rfl)⟩
abbrev m_Rw_doLambda : z_M := (({ cls := "TypeKernel$Rewriter", name := "doLambda", desc := "(I)V" } : Jvm.MethodName), prog_3_method_5_code, 4, (Option.none : Option Jvm.ClassFile.FieldType), [])
theorem cd_Rw_doLambda (HG : z_ok G) : z_cd G m_Rw_doLambda := Or.inl ⟨rfl, HG.mem (k_in 437 (by decide +kernel) rfl)⟩
abbrev m_Row_endOf : z_M := (({ cls := "TypeKernel$Row", name := "endOf", desc := "(I)I" } : Jvm.MethodName), prog_4_method_10_code, 4, (Option.some Jvm.ClassFile.FieldType.int), [])
theorem cd_Row_endOf (HG : z_ok G) : z_cd G m_Row_endOf := Or.inl ⟨rfl, HG.mem (k_in 441 (by decide +kernel) rfl)⟩
abbrev m_Row_hasParts : z_M := (({ cls := "TypeKernel$Row", name := "hasParts", desc := "(I)Z" } : Jvm.MethodName), prog_4_method_15_code, 1, (Option.some Jvm.ClassFile.FieldType.boolean), [])
theorem cd_Row_hasParts (HG : z_ok G) : z_cd G m_Row_hasParts := Or.inl ⟨rfl, HG.mem (k_in 444 (by decide +kernel) rfl)⟩
abbrev m_Row_appendPart : z_M := (({ cls := "TypeKernel$Row", name := "appendPart", desc := "(LTypeKernel$Row;II)V" } : Jvm.MethodName), prog_4_method_6_code, 5, (Option.none : Option Jvm.ClassFile.FieldType), [])
theorem cd_Row_appendPart (HG : z_ok G) : z_cd G m_Row_appendPart := Or.inl ⟨rfl, HG.mem (k_in 449 (by decide +kernel) rfl)⟩
abbrev m_Rw_appendBodyWith : z_M := (({ cls := "TypeKernel$Rewriter", name := "appendBodyWith", desc := "(LTypeKernel$Row;ILTypeKernel$Row;ILTypeKernel$Row;)V" } : Jvm.MethodName), prog_3_method_10_code, 9, (Option.none : Option Jvm.ClassFile.FieldType), [])
theorem cd_Rw_appendBodyWith (HG : z_ok G) : z_cd G m_Rw_appendBodyWith := Or.inl ⟨rfl, HG.mem (k_in 454 (by decide +kernel) rfl)⟩
abbrev m_Rw_takeNext : z_M := (({ cls := "TypeKernel$Rewriter", name := "takeNext", desc := "()V" } : Jvm.MethodName), prog_3_method_7_code, 2, (Option.none : Option Jvm.ClassFile.FieldType), [])
theorem cd_Rw_takeNext (HG : z_ok G) : z_cd G m_Rw_takeNext := Or.inl ⟨rfl, HG.mem (k_in 459 (by decide +kernel) rfl)⟩
abbrev m_Rw_firstMatch : z_M := (({ cls := "TypeKernel$Rewriter", name := "firstMatch", desc := "(I)I" } : Jvm.MethodName), prog_3_method_8_code, 3, (Option.some Jvm.ClassFile.FieldType.int), [])
theorem cd_Rw_firstMatch (HG : z_ok G) : z_cd G m_Rw_firstMatch := Or.inl ⟨rfl, HG.mem (k_in 463 (by decide +kernel) rfl)⟩
abbrev m_Rw_matches : z_M := (({ cls := "TypeKernel$Rewriter", name := "matches", desc := "(LTypeKernel$Rule;I)Z" } : Jvm.MethodName), prog_3_method_9_code, 7, (Option.some Jvm.ClassFile.FieldType.boolean), [])
theorem cd_Rw_matches (HG : z_ok G) : z_cd G m_Rw_matches := Or.inl ⟨rfl, HG.mem (k_in 467 (by decide +kernel) rfl)⟩
abbrev m_Rw_doRule : z_M := (({ cls := "TypeKernel$Rewriter", name := "doRule", desc := "(LTypeKernel$Rule;I)V" } : Jvm.MethodName), prog_3_method_6_code, 7, (Option.none : Option Jvm.ClassFile.FieldType), [])
theorem cd_Rw_doRule (HG : z_ok G) : z_cd G m_Rw_doRule := Or.inl ⟨rfl, HG.mem (k_in 471 (by decide +kernel) rfl)⟩
abbrev m_Row_isPart : z_M := (({ cls := "TypeKernel$Row", name := "isPart", desc := "(LTypeKernel$Row;II)Z" } : Jvm.MethodName), prog_4_method_13_code, 5, (Option.some Jvm.ClassFile.FieldType.boolean), [])
theorem cd_Row_isPart (HG : z_ok G) : z_cd G m_Row_isPart := Or.inl ⟨rfl, HG.mem (k_in 493 (by decide +kernel) rfl)⟩
abbrev m_Row_join : z_M := (({ cls := "TypeKernel$Row", name := "join", desc := "(ILTypeKernel$Row;LTypeKernel$Row;)V" } : Jvm.MethodName), prog_4_method_9_code, 4, (Option.none : Option Jvm.ClassFile.FieldType), [])
theorem cd_Row_join (HG : z_ok G) : z_cd G m_Row_join := Or.inl ⟨rfl, HG.mem (k_in 497 (by decide +kernel) rfl)⟩
abbrev m_Lw_assume : z_M := (({ cls := "TypeKernelLaw", name := "assume", desc := "(LTypeKernel;)I" } : Jvm.MethodName), method_7_code, 2, (Option.some Jvm.ClassFile.FieldType.int), [((0 : Nat), (4 : Nat), (7 : Nat), (26 : Nat)), ((0 : Nat), (4 : Nat), (10 : Nat), (12 : Nat)), ((0 : Nat), (4 : Nat), (13 : Nat), (28 : Nat))])
theorem cd_Lw_assume (HG : z_ok G) : z_cd G m_Lw_assume := Or.inr (HG.mem (k_in 503 (by decide +kernel) rfl))
abbrev m_TK_assume : z_M := (({ cls := "TypeKernel", name := "assume", desc := "()V" } : Jvm.MethodName), prog_1_method_6_code, 2, (Option.none : Option Jvm.ClassFile.FieldType), [])
theorem cd_TK_assume (HG : z_ok G) : z_cd G m_TK_assume := Or.inl ⟨rfl, HG.mem (k_in 507 (by decide +kernel) rfl)⟩
abbrev m_Row_is : z_M := (({ cls := "TypeKernel$Row", name := "is", desc := "(I)Z" } : Jvm.MethodName), prog_4_method_3_code, 2, (Option.some Jvm.ClassFile.FieldType.boolean), [])
theorem cd_Row_is (HG : z_ok G) : z_cd G m_Row_is := Or.inl ⟨rfl, HG.mem (k_in 511 (by decide +kernel) rfl)⟩
abbrev m_Lw_lambda : z_M := (({ cls := "TypeKernelLaw", name := "lambda", desc := "(LTypeKernel;)I" } : Jvm.MethodName), method_8_code, 2, (Option.some Jvm.ClassFile.FieldType.int), [((0 : Nat), (4 : Nat), (7 : Nat), (26 : Nat)), ((0 : Nat), (4 : Nat), (10 : Nat), (28 : Nat)), ((0 : Nat), (4 : Nat), (13 : Nat), (30 : Nat))])
theorem cd_Lw_lambda (HG : z_ok G) : z_cd G m_Lw_lambda := Or.inr (HG.mem (k_in 514 (by decide +kernel) rfl))
abbrev m_TK_lambda : z_M := (({ cls := "TypeKernel", name := "lambda", desc := "()V" } : Jvm.MethodName), prog_1_method_7_code, 2, (Option.none : Option Jvm.ClassFile.FieldType), [])
theorem cd_TK_lambda (HG : z_ok G) : z_cd G m_TK_lambda := Or.inl ⟨rfl, HG.mem (k_in 518 (by decide +kernel) rfl)⟩
abbrev m_TK_onlyPresentJudgement : z_M := (({ cls := "TypeKernel", name := "onlyPresentJudgement", desc := "()LTypeKernel$Judgement;" } : Jvm.MethodName), prog_1_method_29_code, 2, (Option.some (Jvm.ClassFile.FieldType.object "TypeKernel$Judgement")), [])
theorem cd_TK_onlyPresentJudgement (HG : z_ok G) : z_cd G m_TK_onlyPresentJudgement := Or.inl ⟨rfl, HG.mem (k_in 522 (by decide +kernel) rfl)⟩
abbrev m_TK_bind : z_M := (({ cls := "TypeKernel", name := "bind", desc := "(LTypeKernel$Judgement;)V" } : Jvm.MethodName), prog_1_method_32_code, 2, (Option.none : Option Jvm.ClassFile.FieldType), [])
theorem cd_TK_bind (HG : z_ok G) : z_cd G m_TK_bind := Or.inl ⟨rfl, HG.mem (k_in 526 (by decide +kernel) rfl)⟩
abbrev m_Lw_product : z_M := (({ cls := "TypeKernelLaw", name := "product", desc := "(LTypeKernel;)I" } : Jvm.MethodName), method_9_code, 2, (Option.some Jvm.ClassFile.FieldType.int), [((0 : Nat), (4 : Nat), (7 : Nat), (26 : Nat)), ((0 : Nat), (4 : Nat), (10 : Nat), (28 : Nat)), ((0 : Nat), (4 : Nat), (13 : Nat), (30 : Nat))])
theorem cd_Lw_product (HG : z_ok G) : z_cd G m_Lw_product := Or.inr (HG.mem (k_in 529 (by decide +kernel) rfl))
abbrev m_TK_product : z_M := (({ cls := "TypeKernel", name := "product", desc := "()V" } : Jvm.MethodName), prog_1_method_8_code, 2, (Option.none : Option Jvm.ClassFile.FieldType), [])
theorem cd_TK_product (HG : z_ok G) : z_cd G m_TK_product := Or.inl ⟨rfl, HG.mem (k_in 533 (by decide +kernel) rfl)⟩
abbrev m_TK_hasSort : z_M := (({ cls := "TypeKernel", name := "hasSort", desc := "(LTypeKernel$Judgement;)Z" } : Jvm.MethodName), prog_1_method_31_code, 1, (Option.some Jvm.ClassFile.FieldType.boolean), [])
theorem cd_TK_hasSort (HG : z_ok G) : z_cd G m_TK_hasSort := Or.inl ⟨rfl, HG.mem (k_in 536 (by decide +kernel) rfl)⟩
abbrev m_Lw_declare : z_M := (({ cls := "TypeKernelLaw", name := "declare", desc := "(LTypeKernel;Z[J)I" } : Jvm.MethodName), method_10_code, 4, (Option.some Jvm.ClassFile.FieldType.int), [((0 : Nat), (9 : Nat), (12 : Nat), (26 : Nat)), ((0 : Nat), (9 : Nat), (15 : Nat), (12 : Nat)), ((0 : Nat), (9 : Nat), (18 : Nat), (28 : Nat))])
theorem cd_Lw_declare (HG : z_ok G) : z_cd G m_Lw_declare := Or.inr (HG.mem (k_in 539 (by decide +kernel) rfl))
abbrev m_TK_declare : z_M := (({ cls := "TypeKernel", name := "declare", desc := "(Z)I" } : Jvm.MethodName), prog_1_method_9_code, 3, (Option.some Jvm.ClassFile.FieldType.int), [])
theorem cd_TK_declare (HG : z_ok G) : z_cd G m_TK_declare := Or.inl ⟨rfl, HG.mem (k_in 543 (by decide +kernel) rfl)⟩
abbrev m_Lw_rule : z_M := (({ cls := "TypeKernelLaw", name := "rule", desc := "(LTypeKernel;[J)I" } : Jvm.MethodName), method_11_code, 3, (Option.some Jvm.ClassFile.FieldType.int), [((0 : Nat), (8 : Nat), (11 : Nat), (26 : Nat)), ((0 : Nat), (8 : Nat), (14 : Nat), (12 : Nat)), ((0 : Nat), (8 : Nat), (17 : Nat), (28 : Nat)), ((0 : Nat), (8 : Nat), (20 : Nat), (30 : Nat))])
theorem cd_Lw_rule (HG : z_ok G) : z_cd G m_Lw_rule := Or.inr (HG.mem (k_in 546 (by decide +kernel) rfl))
abbrev m_TK_rule : z_M := (({ cls := "TypeKernel", name := "rule", desc := "()I" } : Jvm.MethodName), prog_1_method_10_code, 3, (Option.some Jvm.ClassFile.FieldType.int), [])
theorem cd_TK_rule (HG : z_ok G) : z_cd G m_TK_rule := Or.inl ⟨rfl, HG.mem (k_in 550 (by decide +kernel) rfl)⟩
abbrev m_TK_isLeftSide : z_M := (({ cls := "TypeKernel", name := "isLeftSide", desc := "(LTypeKernel$Row;)Z" } : Jvm.MethodName), prog_1_method_33_code, 4, (Option.some Jvm.ClassFile.FieldType.boolean), [])
theorem cd_TK_isLeftSide (HG : z_ok G) : z_cd G m_TK_isLeftSide := Or.inl ⟨rfl, HG.mem (k_in 554 (by decide +kernel) rfl)⟩
abbrev m_Row_headOf : z_M := (({ cls := "TypeKernel$Row", name := "headOf", desc := "(I)I" } : Jvm.MethodName), prog_4_method_11_code, 3, (Option.some Jvm.ClassFile.FieldType.int), [])
theorem cd_Row_headOf (HG : z_ok G) : z_cd G m_Row_headOf := Or.inl ⟨rfl, HG.mem (k_in 558 (by decide +kernel) rfl)⟩
abbrev m_TK_mayStandInPattern : z_M := (({ cls := "TypeKernel", name := "mayStandInPattern", desc := "(LTypeKernel$Row;I)Z" } : Jvm.MethodName), prog_1_method_34_code, 3, (Option.some Jvm.ClassFile.FieldType.boolean), [])
theorem cd_TK_mayStandInPattern (HG : z_ok G) : z_cd G m_TK_mayStandInPattern := Or.inl ⟨rfl, HG.mem (k_in 561 (by decide +kernel) rfl)⟩
abbrev m_Row_countOf : z_M := (({ cls := "TypeKernel$Row", name := "countOf", desc := "(I)I" } : Jvm.MethodName), prog_4_method_12_code, 4, (Option.some Jvm.ClassFile.FieldType.int), [])
theorem cd_Row_countOf (HG : z_ok G) : z_cd G m_Row_countOf := Or.inl ⟨rfl, HG.mem (k_in 565 (by decide +kernel) rfl)⟩
abbrev m_Row_equalsRow : z_M := (({ cls := "TypeKernel$Row", name := "equalsRow", desc := "(LTypeKernel$Row;)Z" } : Jvm.MethodName), prog_4_method_14_code, 2, (Option.some Jvm.ClassFile.FieldType.boolean), [])
theorem cd_Row_equalsRow (HG : z_ok G) : z_cd G m_Row_equalsRow := Or.inl ⟨rfl, HG.mem (k_in 569 (by decide +kernel) rfl)⟩
abbrev m_Rw_addRule : z_M := (({ cls := "TypeKernel$Rewriter", name := "addRule", desc := "(LTypeKernel$Row;LTypeKernel$Row;I)V" } : Jvm.MethodName), prog_3_method_2_code, 5, (Option.none : Option Jvm.ClassFile.FieldType), [])
theorem cd_Rw_addRule (HG : z_ok G) : z_cd G m_Rw_addRule := Or.inl ⟨rfl, HG.mem (k_in 574 (by decide +kernel) rfl)⟩
abbrev m_Lw_normal : z_M := (({ cls := "TypeKernelLaw", name := "normal", desc := "(LTypeKernel;[J)I" } : Jvm.MethodName), method_12_code, 3, (Option.some Jvm.ClassFile.FieldType.int), [((0 : Nat), (8 : Nat), (11 : Nat), (26 : Nat)), ((0 : Nat), (8 : Nat), (14 : Nat), (30 : Nat))])
theorem cd_Lw_normal (HG : z_ok G) : z_cd G m_Lw_normal := Or.inr (HG.mem (k_in 577 (by decide +kernel) rfl))
abbrev m_TK_normal : z_M := (({ cls := "TypeKernel", name := "normal", desc := "()I" } : Jvm.MethodName), prog_1_method_11_code, 3, (Option.some Jvm.ClassFile.FieldType.int), [])
theorem cd_TK_normal (HG : z_ok G) : z_cd G m_TK_normal := Or.inl ⟨rfl, HG.mem (k_in 581 (by decide +kernel) rfl)⟩
abbrev m_Lw_same : z_M := (({ cls := "TypeKernelLaw", name := "same", desc := "(LTypeKernel;[J)I" } : Jvm.MethodName), method_13_code, 3, (Option.some Jvm.ClassFile.FieldType.int), [((0 : Nat), (15 : Nat), (18 : Nat), (26 : Nat)), ((0 : Nat), (15 : Nat), (21 : Nat), (30 : Nat))])
theorem cd_Lw_same (HG : z_ok G) : z_cd G m_Lw_same := Or.inr (HG.mem (k_in 584 (by decide +kernel) rfl))
abbrev m_TK_same : z_M := (({ cls := "TypeKernel", name := "same", desc := "()Z" } : Jvm.MethodName), prog_1_method_12_code, 3, (Option.some Jvm.ClassFile.FieldType.boolean), [])
theorem cd_TK_same (HG : z_ok G) : z_cd G m_TK_same := Or.inl ⟨rfl, HG.mem (k_in 588 (by decide +kernel) rfl)⟩
abbrev m_Md_init : z_M := (({ cls := "TypeKernelModel", name := "<init>", desc := "()V" } : Jvm.MethodName), prog_8_method_1_code, 1, (Option.none : Option Jvm.ClassFile.FieldType), [])
theorem cd_Md_init (HG : z_ok G) : z_cd G m_Md_init := Or.inl ⟨rfl, HG.mem (k_in 593 (by decide +kernel) rfl)⟩
abbrev m_Md_thrown : z_M := (({ cls := "TypeKernelModel", name := "thrown", desc := "()I" } : Jvm.MethodName), prog_8_method_2_code, 1, (Option.some Jvm.ClassFile.FieldType.int), [])
theorem cd_Md_thrown (HG : z_ok G) : z_cd G m_Md_thrown := Or.inl ⟨rfl, HG.mem (k_in 647 (by decide +kernel) rfl)⟩
abbrev m_Md_sort : z_M := (({ cls := "TypeKernelModel", name := "sort", desc := "()V" } : Jvm.MethodName), prog_8_method_24_code, 1, (Option.none : Option Jvm.ClassFile.FieldType), [])
theorem cd_Md_sort (HG : z_ok G) : z_cd G m_Md_sort := Or.inl ⟨rfl, HG.mem (k_in 651 (by decide +kernel) rfl)⟩
abbrev m_Md_push : z_M := (({ cls := "TypeKernelModel", name := "push", desc := "()Z" } : Jvm.MethodName), prog_8_method_23_code, 1, (Option.some Jvm.ClassFile.FieldType.boolean), [])
theorem cd_Md_push (HG : z_ok G) : z_cd G m_Md_push := Or.inl ⟨rfl, HG.mem (k_in 655 (by decide +kernel) rfl)⟩
abbrev m_Md_add : z_M := (({ cls := "TypeKernelModel", name := "add", desc := "(II)V" } : Jvm.MethodName), prog_8_method_5_code, 3, (Option.none : Option Jvm.ClassFile.FieldType), [])
theorem cd_Md_add (HG : z_ok G) : z_cd G m_Md_add := Or.inl ⟨rfl, HG.mem (k_in 659 (by decide +kernel) rfl)⟩
abbrev m_Md_constant : z_M := (({ cls := "TypeKernelModel", name := "constant", desc := "(I)V" } : Jvm.MethodName), prog_8_method_25_code, 2, (Option.none : Option Jvm.ClassFile.FieldType), [])
theorem cd_Md_constant (HG : z_ok G) : z_cd G m_Md_constant := Or.inl ⟨rfl, HG.mem (k_in 663 (by decide +kernel) rfl)⟩
abbrev m_Md_addRow : z_M := (({ cls := "TypeKernelModel", name := "addRow", desc := "(II)V" } : Jvm.MethodName), prog_8_method_6_code, 4, (Option.none : Option Jvm.ClassFile.FieldType), [])
theorem cd_Md_addRow (HG : z_ok G) : z_cd G m_Md_addRow := Or.inl ⟨rfl, HG.mem (k_in 667 (by decide +kernel) rfl)⟩
abbrev m_Md_at : z_M := (({ cls := "TypeKernelModel", name := "at", desc := "(II)I" } : Jvm.MethodName), prog_8_method_4_code, 3, (Option.some Jvm.ClassFile.FieldType.int), [])
theorem cd_Md_at (HG : z_ok G) : z_cd G m_Md_at := Or.inl ⟨rfl, HG.mem (k_in 671 (by decide +kernel) rfl)⟩
abbrev m_Md_variable : z_M := (({ cls := "TypeKernelModel", name := "variable", desc := "(I)V" } : Jvm.MethodName), prog_8_method_26_code, 3, (Option.none : Option Jvm.ClassFile.FieldType), [])
theorem cd_Md_variable (HG : z_ok G) : z_cd G m_Md_variable := Or.inl ⟨rfl, HG.mem (k_in 675 (by decide +kernel) rfl)⟩
abbrev m_Md_measure : z_M := (({ cls := "TypeKernelModel", name := "measure", desc := "(IZ)V" } : Jvm.MethodName), prog_8_method_12_code, 7, (Option.none : Option Jvm.ClassFile.FieldType), [])
theorem cd_Md_measure (HG : z_ok G) : z_cd G m_Md_measure := Or.inl ⟨rfl, HG.mem (k_in 679 (by decide +kernel) rfl)⟩
abbrev m_Md_isPair : z_M := (({ cls := "TypeKernelModel", name := "isPair", desc := "(I)Z" } : Jvm.MethodName), prog_8_method_10_code, 1, (Option.some Jvm.ClassFile.FieldType.boolean), [])
theorem cd_Md_isPair (HG : z_ok G) : z_cd G m_Md_isPair := Or.inl ⟨rfl, HG.mem (k_in 682 (by decide +kernel) rfl)⟩
abbrev m_Md_addShifted : z_M := (({ cls := "TypeKernelModel", name := "addShifted", desc := "(IIIII)V" } : Jvm.MethodName), prog_8_method_13_code, 8, (Option.none : Option Jvm.ClassFile.FieldType), [])
theorem cd_Md_addShifted (HG : z_ok G) : z_cd G m_Md_addShifted := Or.inl ⟨rfl, HG.mem (k_in 686 (by decide +kernel) rfl)⟩
abbrev m_Md_apply : z_M := (({ cls := "TypeKernelModel", name := "apply", desc := "()V" } : Jvm.MethodName), prog_8_method_29_code, 1, (Option.none : Option Jvm.ClassFile.FieldType), [])
theorem cd_Md_apply (HG : z_ok G) : z_cd G m_Md_apply := Or.inl ⟨rfl, HG.mem (k_in 690 (by decide +kernel) rfl)⟩
abbrev m_Md_applied : z_M := (({ cls := "TypeKernelModel", name := "applied", desc := "()I" } : Jvm.MethodName), prog_8_method_27_code, 8, (Option.some Jvm.ClassFile.FieldType.int), [])
theorem cd_Md_applied (HG : z_ok G) : z_cd G m_Md_applied := Or.inl ⟨rfl, HG.mem (k_in 694 (by decide +kernel) rfl)⟩
abbrev m_Md_present : z_M := (({ cls := "TypeKernelModel", name := "present", desc := "(I)Z" } : Jvm.MethodName), prog_8_method_21_code, 2, (Option.some Jvm.ClassFile.FieldType.boolean), [])
theorem cd_Md_present (HG : z_ok G) : z_cd G m_Md_present := Or.inl ⟨rfl, HG.mem (k_in 698 (by decide +kernel) rfl)⟩
abbrev m_Md_normalOf : z_M := (({ cls := "TypeKernelModel", name := "normalOf", desc := "(I)I" } : Jvm.MethodName), prog_8_method_20_code, 2, (Option.some Jvm.ClassFile.FieldType.int), [])
theorem cd_Md_normalOf (HG : z_ok G) : z_cd G m_Md_normalOf := Or.inl ⟨rfl, HG.mem (k_in 702 (by decide +kernel) rfl)⟩
abbrev m_Md_copy : z_M := (({ cls := "TypeKernelModel", name := "copy", desc := "(II)V" } : Jvm.MethodName), prog_8_method_7_code, 3, (Option.none : Option Jvm.ClassFile.FieldType), [])
theorem cd_Md_copy (HG : z_ok G) : z_cd G m_Md_copy := Or.inl ⟨rfl, HG.mem (k_in 706 (by decide +kernel) rfl)⟩
abbrev m_Md_normalise : z_M := (({ cls := "TypeKernelModel", name := "normalise", desc := "()I" } : Jvm.MethodName), prog_8_method_19_code, 4, (Option.some Jvm.ClassFile.FieldType.int), [])
theorem cd_Md_normalise (HG : z_ok G) : z_cd G m_Md_normalise := Or.inl ⟨rfl, HG.mem (k_in 710 (by decide +kernel) rfl)⟩
abbrev m_Md_redex : z_M := (({ cls := "TypeKernelModel", name := "redex", desc := "(I)I" } : Jvm.MethodName), prog_8_method_17_code, 3, (Option.some Jvm.ClassFile.FieldType.int), [])
theorem cd_Md_redex (HG : z_ok G) : z_cd G m_Md_redex := Or.inl ⟨rfl, HG.mem (k_in 714 (by decide +kernel) rfl)⟩
abbrev m_Md_matches : z_M := (({ cls := "TypeKernelModel", name := "matches", desc := "(II)Z" } : Jvm.MethodName), prog_8_method_15_code, 6, (Option.some Jvm.ClassFile.FieldType.boolean), [])
theorem cd_Md_matches (HG : z_ok G) : z_cd G m_Md_matches := Or.inl ⟨rfl, HG.mem (k_in 718 (by decide +kernel) rfl)⟩
abbrev m_Md_end : z_M := (({ cls := "TypeKernelModel", name := "end", desc := "(II)I" } : Jvm.MethodName), prog_8_method_11_code, 5, (Option.some Jvm.ClassFile.FieldType.int), [])
theorem cd_Md_end (HG : z_ok G) : z_cd G m_Md_end := Or.inl ⟨rfl, HG.mem (k_in 722 (by decide +kernel) rfl)⟩
abbrev m_Md_step : z_M := (({ cls := "TypeKernelModel", name := "step", desc := "(II)V" } : Jvm.MethodName), prog_8_method_18_code, 6, (Option.none : Option Jvm.ClassFile.FieldType), [])
theorem cd_Md_step (HG : z_ok G) : z_cd G m_Md_step := Or.inl ⟨rfl, HG.mem (k_in 726 (by decide +kernel) rfl)⟩
abbrev m_Md_addPut : z_M := (({ cls := "TypeKernelModel", name := "addPut", desc := "(IIIIII)V" } : Jvm.MethodName), prog_8_method_14_code, 10, (Option.none : Option Jvm.ClassFile.FieldType), [])
theorem cd_Md_addPut (HG : z_ok G) : z_cd G m_Md_addPut := Or.inl ⟨rfl, HG.mem (k_in 730 (by decide +kernel) rfl)⟩
abbrev m_Md_addResult : z_M := (({ cls := "TypeKernelModel", name := "addResult", desc := "(I)V" } : Jvm.MethodName), prog_8_method_16_code, 6, (Option.none : Option Jvm.ClassFile.FieldType), [])
theorem cd_Md_addResult (HG : z_ok G) : z_cd G m_Md_addResult := Or.inl ⟨rfl, HG.mem (k_in 734 (by decide +kernel) rfl)⟩
abbrev m_Md_putTerm : z_M := (({ cls := "TypeKernelModel", name := "putTerm", desc := "(II)V" } : Jvm.MethodName), prog_8_method_28_code, 6, (Option.none : Option Jvm.ClassFile.FieldType), [])
theorem cd_Md_putTerm (HG : z_ok G) : z_cd G m_Md_putTerm := Or.inl ⟨rfl, HG.mem (k_in 738 (by decide +kernel) rfl)⟩
abbrev m_Md_assume : z_M := (({ cls := "TypeKernelModel", name := "assume", desc := "()V" } : Jvm.MethodName), prog_8_method_30_code, 2, (Option.none : Option Jvm.ClassFile.FieldType), [])
theorem cd_Md_assume (HG : z_ok G) : z_cd G m_Md_assume := Or.inl ⟨rfl, HG.mem (k_in 742 (by decide +kernel) rfl)⟩
abbrev m_Md_isOne : z_M := (({ cls := "TypeKernelModel", name := "isOne", desc := "(II)Z" } : Jvm.MethodName), prog_8_method_9_code, 3, (Option.some Jvm.ClassFile.FieldType.boolean), [])
theorem cd_Md_isOne (HG : z_ok G) : z_cd G m_Md_isOne := Or.inl ⟨rfl, HG.mem (k_in 746 (by decide +kernel) rfl)⟩
abbrev m_Md_lambda : z_M := (({ cls := "TypeKernelModel", name := "lambda", desc := "()V" } : Jvm.MethodName), prog_8_method_34_code, 3, (Option.none : Option Jvm.ClassFile.FieldType), [])
theorem cd_Md_lambda (HG : z_ok G) : z_cd G m_Md_lambda := Or.inl ⟨rfl, HG.mem (k_in 750 (by decide +kernel) rfl)⟩
abbrev m_Md_canBind : z_M := (({ cls := "TypeKernelModel", name := "canBind", desc := "()Z" } : Jvm.MethodName), prog_8_method_32_code, 1, (Option.some Jvm.ClassFile.FieldType.boolean), [])
theorem cd_Md_canBind (HG : z_ok G) : z_cd G m_Md_canBind := Or.inl ⟨rfl, HG.mem (k_in 754 (by decide +kernel) rfl)⟩
abbrev m_Md_alone : z_M := (({ cls := "TypeKernelModel", name := "alone", desc := "()Z" } : Jvm.MethodName), prog_8_method_22_code, 3, (Option.some Jvm.ClassFile.FieldType.boolean), [])
theorem cd_Md_alone (HG : z_ok G) : z_cd G m_Md_alone := Or.inl ⟨rfl, HG.mem (k_in 758 (by decide +kernel) rfl)⟩
abbrev m_Md_binds : z_M := (({ cls := "TypeKernelModel", name := "binds", desc := "(II)Z" } : Jvm.MethodName), prog_8_method_31_code, 3, (Option.some Jvm.ClassFile.FieldType.boolean), [])
theorem cd_Md_binds (HG : z_ok G) : z_cd G m_Md_binds := Or.inl ⟨rfl, HG.mem (k_in 762 (by decide +kernel) rfl)⟩
abbrev m_Md_close : z_M := (({ cls := "TypeKernelModel", name := "close", desc := "()V" } : Jvm.MethodName), prog_8_method_33_code, 1, (Option.none : Option Jvm.ClassFile.FieldType), [])
theorem cd_Md_close (HG : z_ok G) : z_cd G m_Md_close := Or.inl ⟨rfl, HG.mem (k_in 766 (by decide +kernel) rfl)⟩
abbrev m_Md_product : z_M := (({ cls := "TypeKernelModel", name := "product", desc := "()V" } : Jvm.MethodName), prog_8_method_35_code, 2, (Option.none : Option Jvm.ClassFile.FieldType), [])
theorem cd_Md_product (HG : z_ok G) : z_cd G m_Md_product := Or.inl ⟨rfl, HG.mem (k_in 770 (by decide +kernel) rfl)⟩
abbrev m_Md_declare : z_M := (({ cls := "TypeKernelModel", name := "declare", desc := "(Z)I" } : Jvm.MethodName), prog_8_method_36_code, 3, (Option.some Jvm.ClassFile.FieldType.int), [])
theorem cd_Md_declare (HG : z_ok G) : z_cd G m_Md_declare := Or.inl ⟨rfl, HG.mem (k_in 774 (by decide +kernel) rfl)⟩
abbrev m_Md_rule : z_M := (({ cls := "TypeKernelModel", name := "rule", desc := "()I" } : Jvm.MethodName), prog_8_method_39_code, 1, (Option.some Jvm.ClassFile.FieldType.int), [])
theorem cd_Md_rule (HG : z_ok G) : z_cd G m_Md_rule := Or.inl ⟨rfl, HG.mem (k_in 778 (by decide +kernel) rfl)⟩
abbrev m_Md_ruled : z_M := (({ cls := "TypeKernelModel", name := "ruled", desc := "()I" } : Jvm.MethodName), prog_8_method_38_code, 3, (Option.some Jvm.ClassFile.FieldType.int), [])
theorem cd_Md_ruled (HG : z_ok G) : z_cd G m_Md_ruled := Or.inl ⟨rfl, HG.mem (k_in 782 (by decide +kernel) rfl)⟩
abbrev m_Md_isLeft : z_M := (({ cls := "TypeKernelModel", name := "isLeft", desc := "(I)Z" } : Jvm.MethodName), prog_8_method_37_code, 9, (Option.some Jvm.ClassFile.FieldType.boolean), [])
theorem cd_Md_isLeft (HG : z_ok G) : z_cd G m_Md_isLeft := Or.inl ⟨rfl, HG.mem (k_in 786 (by decide +kernel) rfl)⟩
abbrev m_Md_equal : z_M := (({ cls := "TypeKernelModel", name := "equal", desc := "(II)Z" } : Jvm.MethodName), prog_8_method_8_code, 5, (Option.some Jvm.ClassFile.FieldType.boolean), [])
theorem cd_Md_equal (HG : z_ok G) : z_cd G m_Md_equal := Or.inl ⟨rfl, HG.mem (k_in 790 (by decide +kernel) rfl)⟩
abbrev m_Md_normal : z_M := (({ cls := "TypeKernelModel", name := "normal", desc := "()I" } : Jvm.MethodName), prog_8_method_40_code, 2, (Option.some Jvm.ClassFile.FieldType.int), [])
theorem cd_Md_normal (HG : z_ok G) : z_cd G m_Md_normal := Or.inl ⟨rfl, HG.mem (k_in 794 (by decide +kernel) rfl)⟩
abbrev m_Md_raise : z_M := (({ cls := "TypeKernelModel", name := "raise", desc := "(I)I" } : Jvm.MethodName), prog_8_method_3_code, 2, (Option.some Jvm.ClassFile.FieldType.int), [])
theorem cd_Md_raise (HG : z_ok G) : z_cd G m_Md_raise := Or.inl ⟨rfl, HG.mem (k_in 798 (by decide +kernel) rfl)⟩
abbrev m_Md_same : z_M := (({ cls := "TypeKernelModel", name := "same", desc := "()Z" } : Jvm.MethodName), prog_8_method_41_code, 3, (Option.some Jvm.ClassFile.FieldType.boolean), [])
theorem cd_Md_same (HG : z_ok G) : z_cd G m_Md_same := Or.inl ⟨rfl, HG.mem (k_in 802 (by decide +kernel) rfl)⟩
abbrev m_Md_drop : z_M := (({ cls := "TypeKernelModel", name := "drop", desc := "()Z" } : Jvm.MethodName), prog_8_method_42_code, 1, (Option.some Jvm.ClassFile.FieldType.boolean), [])
theorem cd_Md_drop (HG : z_ok G) : z_cd G m_Md_drop := Or.inl ⟨rfl, HG.mem (k_in 806 (by decide +kernel) rfl)⟩
abbrev m_Md_leave : z_M := (({ cls := "TypeKernelModel", name := "leave", desc := "()Z" } : Jvm.MethodName), prog_8_method_43_code, 1, (Option.some Jvm.ClassFile.FieldType.boolean), [])
theorem cd_Md_leave (HG : z_ok G) : z_cd G m_Md_leave := Or.inl ⟨rfl, HG.mem (k_in 810 (by decide +kernel) rfl)⟩
abbrev m_Md_counts : z_M := (({ cls := "TypeKernelModel", name := "counts", desc := "()I" } : Jvm.MethodName), prog_8_method_44_code, 1, (Option.some Jvm.ClassFile.FieldType.int), [])
theorem cd_Md_counts (HG : z_ok G) : z_cd G m_Md_counts := Or.inl ⟨rfl, HG.mem (k_in 814 (by decide +kernel) rfl)⟩
abbrev m_Md_judgement : z_M := (({ cls := "TypeKernelModel", name := "judgement", desc := "(IZI)I" } : Jvm.MethodName), prog_8_method_46_code, 4, (Option.some Jvm.ClassFile.FieldType.int), [])
theorem cd_Md_judgement (HG : z_ok G) : z_cd G m_Md_judgement := Or.inl ⟨rfl, HG.mem (k_in 818 (by decide +kernel) rfl)⟩
abbrev m_Md_seen : z_M := (({ cls := "TypeKernelModel", name := "seen", desc := "(II)I" } : Jvm.MethodName), prog_8_method_45_code, 3, (Option.some Jvm.ClassFile.FieldType.int), [])
theorem cd_Md_seen (HG : z_ok G) : z_cd G m_Md_seen := Or.inl ⟨rfl, HG.mem (k_in 822 (by decide +kernel) rfl)⟩
abbrev m_Md_made : z_M := (({ cls := "TypeKernelModel", name := "made", desc := "(I)I" } : Jvm.MethodName), prog_8_method_47_code, 2, (Option.some Jvm.ClassFile.FieldType.int), [])
theorem cd_Md_made (HG : z_ok G) : z_cd G m_Md_made := Or.inl ⟨rfl, HG.mem (k_in 826 (by decide +kernel) rfl)⟩
abbrev m_Md_entry : z_M := (({ cls := "TypeKernelModel", name := "entry", desc := "(II)I" } : Jvm.MethodName), prog_8_method_48_code, 3, (Option.some Jvm.ClassFile.FieldType.int), [])
theorem cd_Md_entry (HG : z_ok G) : z_cd G m_Md_entry := Or.inl ⟨rfl, HG.mem (k_in 830 (by decide +kernel) rfl)⟩
abbrev m_Md_type : z_M := (({ cls := "TypeKernelModel", name := "type", desc := "(II)I" } : Jvm.MethodName), prog_8_method_49_code, 3, (Option.some Jvm.ClassFile.FieldType.int), [])
theorem cd_Md_type (HG : z_ok G) : z_cd G m_Md_type := Or.inl ⟨rfl, HG.mem (k_in 834 (by decide +kernel) rfl)⟩
abbrev m_Md_side : z_M := (({ cls := "TypeKernelModel", name := "side", desc := "(IZI)I" } : Jvm.MethodName), prog_8_method_50_code, 4, (Option.some Jvm.ClassFile.FieldType.int), [])
theorem cd_Md_side (HG : z_ok G) : z_cd G m_Md_side := Or.inl ⟨rfl, HG.mem (k_in 838 (by decide +kernel) rfl)⟩
abbrev m_Lw_law : z_M := (x, code, maxLocals, ret, [])
theorem L_TK_11 (HG : z_ok G) : z_lnk G "TypeKernel" 11 F_TK 0 := Or.inl (HG.mem (k_in 135 (by decide +kernel) rfl))
theorem L_TK_11K (HG : z_ok G) : z_cls G 5 R_TK F_TK 12 t_TK := K_TK HG
theorem L_TK_15 (HG : z_ok G) : z_lnk G "TypeKernel" 15 F_TK 1 := Or.inl (HG.mem (k_in 136 (by decide +kernel) rfl))
theorem L_TK_15K (HG : z_ok G) : z_cls G 5 R_TK F_TK 12 t_TK := K_TK HG
theorem L_TK_21 (HG : z_ok G) : z_lnk G "TypeKernel" 21 F_TK 2 := Or.inl (HG.mem (k_in 137 (by decide +kernel) rfl))
theorem L_TK_21K (HG : z_ok G) : z_cls G 5 R_TK F_TK 12 t_TK := K_TK HG
theorem L_TK_25 (HG : z_ok G) : z_lnk G "TypeKernel" 25 F_TK 3 := Or.inl (HG.mem (k_in 138 (by decide +kernel) rfl))
theorem L_TK_25K (HG : z_ok G) : z_cls G 5 R_TK F_TK 12 t_TK := K_TK HG
theorem L_TK_28 (HG : z_ok G) : z_lnk G "TypeKernel" 28 F_TK 4 := Or.inl (HG.mem (k_in 139 (by decide +kernel) rfl))
theorem L_TK_28K (HG : z_ok G) : z_cls G 5 R_TK F_TK 12 t_TK := K_TK HG
theorem L_TK_31 (HG : z_ok G) : z_lnk G "TypeKernel" 31 F_TK 5 := Or.inl (HG.mem (k_in 140 (by decide +kernel) rfl))
theorem L_TK_31K (HG : z_ok G) : z_cls G 5 R_TK F_TK 12 t_TK := K_TK HG
theorem L_TK_35 (HG : z_ok G) : z_lnk G "TypeKernel" 35 F_TK 6 := Or.inl (HG.mem (k_in 141 (by decide +kernel) rfl))
theorem L_TK_35K (HG : z_ok G) : z_cls G 5 R_TK F_TK 12 t_TK := K_TK HG
theorem Y_TK_40 (HG : z_ok G) : z_Yi G "TypeKernel" 40 m_Rw_init := ⟨⟨cd_Rw_init HG, by decide +kernel, by decide, ⟨⟨by decide +kernel, by decide +kernel⟩, by decide +kernel⟩, Or.inl (HG.mem (k_in 31 (by decide +kernel) rfl))⟩, rfl, rfl, rfl, HG.mem (k_in 33 (by decide +kernel) rfl), HG.mem (k_in 32 (by decide +kernel) rfl)⟩
theorem L_TK_41 (HG : z_ok G) : z_lnk G "TypeKernel" 41 F_TK 7 := Or.inl (HG.mem (k_in 142 (by decide +kernel) rfl))
theorem L_TK_41K (HG : z_ok G) : z_cls G 5 R_TK F_TK 12 t_TK := K_TK HG
theorem Y_TK_45 (HG : z_ok G) : z_Yi G "TypeKernel" 45 m_Row_init := ⟨⟨cd_Row_init HG, by decide +kernel, by decide, ⟨⟨by decide +kernel, by decide +kernel⟩, by decide +kernel⟩, Or.inr ⟨"TypeKernel", HG.mem (k_in 114 (by decide +kernel) rfl)⟩⟩, rfl, rfl, rfl, HG.mem (k_in 41 (by decide +kernel) rfl), HG.mem (k_in 40 (by decide +kernel) rfl)⟩
theorem L_TK_46 (HG : z_ok G) : z_lnk G "TypeKernel" 46 F_TK 8 := Or.inl (HG.mem (k_in 143 (by decide +kernel) rfl))
theorem L_TK_46K (HG : z_ok G) : z_cls G 5 R_TK F_TK 12 t_TK := K_TK HG
theorem L_TK_50 (HG : z_ok G) : z_lnk G "TypeKernel" 50 F_TK 9 := Or.inl (HG.mem (k_in 144 (by decide +kernel) rfl))
theorem L_TK_50K (HG : z_ok G) : z_cls G 5 R_TK F_TK 12 t_TK := K_TK HG
theorem L_TK_53 (HG : z_ok G) : z_lnk G "TypeKernel" 53 F_TK 10 := Or.inl (HG.mem (k_in 145 (by decide +kernel) rfl))
theorem L_TK_53K (HG : z_ok G) : z_cls G 5 R_TK F_TK 12 t_TK := K_TK HG
theorem L_TK_56 (HG : z_ok G) : z_lnk G "TypeKernel" 56 F_TK 11 := Or.inl (HG.mem (k_in 146 (by decide +kernel) rfl))
theorem L_TK_56K (HG : z_ok G) : z_cls G 5 R_TK F_TK 12 t_TK := K_TK HG
theorem Y_TK_59 (HG : z_ok G) : z_Yi G "TypeKernel" 59 m_Jd_init := ⟨⟨cd_Jd_init HG, by decide +kernel, by decide, ⟨⟨by decide +kernel, by decide +kernel⟩, by decide +kernel⟩, Or.inr ⟨"TypeKernel", HG.mem (k_in 116 (by decide +kernel) rfl)⟩⟩, rfl, rfl, rfl, HG.mem (k_in 118 (by decide +kernel) rfl), HG.mem (k_in 117 (by decide +kernel) rfl)⟩
theorem Y_TK_60 (HG : z_ok G) : z_Yv G "TypeKernel" 60 m_TK_addJudgement 0 := ⟨⟨cd_TK_addJudgement HG, by decide +kernel, by decide, ⟨⟨by decide +kernel, by decide +kernel⟩, by decide +kernel⟩, Or.inl (HG.mem (k_in 240 (by decide +kernel) rfl))⟩, HG.mem (k_in 242 (by decide +kernel) rfl), HG.mem (k_inp (q := (({ cls := "TypeKernel", name := "addJudgement", desc := "()LTypeKernel$Judgement;" } : Jvm.MethodName), 12)) 6 (by decide +kernel))⟩
theorem L_TK_64 (HG : z_ok G) : z_lnk G "TypeKernel" 64 F_Jd 0 := Or.inr ⟨"TypeKernel", HG.mem (k_in 123 (by decide +kernel) rfl)⟩
theorem L_TK_64K (HG : z_ok G) : z_cls G 1 R_Jd F_Jd 3 t_Jd := K_Jd HG
theorem Y_TK_67 (HG : z_ok G) : z_Yv G "TypeKernel" 67 m_Row_become 1 := ⟨⟨cd_Row_become HG, by decide +kernel, by decide, ⟨⟨by decide +kernel, by decide +kernel⟩, by decide +kernel⟩, Or.inl (HG.mem (k_in 309 (by decide +kernel) rfl))⟩, HG.mem (k_in 310 (by decide +kernel) rfl), HG.mem (k_in 311 (by decide +kernel) rfl)⟩
theorem L_TK_71 (HG : z_ok G) : z_lnk G "TypeKernel" 71 F_Jd 1 := Or.inr ⟨"TypeKernel", HG.mem (k_in 125 (by decide +kernel) rfl)⟩
theorem L_TK_71K (HG : z_ok G) : z_cls G 1 R_Jd F_Jd 3 t_Jd := K_Jd HG
theorem Y_TK_74 (HG : z_ok G) : z_Yv G "TypeKernel" 74 m_TK_isConstant 1 := ⟨⟨cd_TK_isConstant HG, by decide +kernel, by decide, ⟨⟨by decide +kernel, by decide +kernel⟩, by decide +kernel⟩, Or.inl (HG.mem (k_in 224 (by decide +kernel) rfl))⟩, HG.mem (k_in 226 (by decide +kernel) rfl), HG.mem (k_inp (q := (({ cls := "TypeKernel", name := "isConstant", desc := "(I)Z" } : Jvm.MethodName), 12)) 5 (by decide +kernel))⟩
theorem Y_TK_81 (HG : z_ok G) : z_Yv G "TypeKernel" 81 m_Row_copy 1 := ⟨⟨cd_Row_copy HG, by decide +kernel, by decide, ⟨⟨by decide +kernel, by decide +kernel⟩, by decide +kernel⟩, Or.inl (HG.mem (k_in 359 (by decide +kernel) rfl))⟩, HG.mem (k_in 360 (by decide +kernel) rfl), HG.mem (k_in 361 (by decide +kernel) rfl)⟩
theorem Y_TK_85 (HG : z_ok G) : z_Yv G "TypeKernel" 85 m_TK_isEntry 1 := ⟨⟨cd_TK_isEntry HG, by decide +kernel, by decide, ⟨⟨by decide +kernel, by decide +kernel⟩, by decide +kernel⟩, Or.inl (HG.mem (k_in 212 (by decide +kernel) rfl))⟩, HG.mem (k_in 214 (by decide +kernel) rfl), HG.mem (k_inp (q := (({ cls := "TypeKernel", name := "isEntry", desc := "(I)Z" } : Jvm.MethodName), 12)) 3 (by decide +kernel))⟩
theorem Y_TK_88 (HG : z_ok G) : z_Yv G "TypeKernel" 88 m_Row_clear 0 := ⟨⟨cd_Row_clear HG, by decide +kernel, by decide, ⟨⟨by decide +kernel, by decide +kernel⟩, by decide +kernel⟩, Or.inl (HG.mem (k_in 373 (by decide +kernel) rfl))⟩, HG.mem (k_in 314 (by decide +kernel) rfl), HG.mem (k_in 315 (by decide +kernel) rfl)⟩
theorem Y_TK_91 (HG : z_ok G) : z_Yv G "TypeKernel" 91 m_TK_entryAt 1 := ⟨⟨cd_TK_entryAt HG, by decide +kernel, by decide, ⟨⟨by decide +kernel, by decide +kernel⟩, by decide +kernel⟩, Or.inl (HG.mem (k_in 216 (by decide +kernel) rfl))⟩, HG.mem (k_in 218 (by decide +kernel) rfl), HG.mem (k_inp (q := (({ cls := "TypeKernel", name := "entryAt", desc := "(I)LTypeKernel$Row;" } : Jvm.MethodName), 12)) 4 (by decide +kernel))⟩
theorem Y_TK_95 (HG : z_ok G) : z_Yv G "TypeKernel" 95 m_Rw_appendLifted 4 := ⟨⟨cd_Rw_appendLifted HG, by decide +kernel, by decide, ⟨⟨by decide +kernel, by decide +kernel⟩, by decide +kernel⟩, Or.inl (HG.mem (k_in 374 (by decide +kernel) rfl))⟩, HG.mem (k_in 375 (by decide +kernel) rfl), HG.mem (k_in 376 (by decide +kernel) rfl)⟩
theorem Y_TK_99 (HG : z_ok G) : z_Yv G "TypeKernel" 99 m_TK_presentJudgement 1 := ⟨⟨cd_TK_presentJudgement HG, by decide +kernel, by decide, ⟨⟨by decide +kernel, by decide +kernel⟩, by decide +kernel⟩, Or.inl (HG.mem (k_in 402 (by decide +kernel) rfl))⟩, HG.mem (k_in 404 (by decide +kernel) rfl), HG.mem (k_inp (q := (({ cls := "TypeKernel", name := "presentJudgement", desc := "(I)LTypeKernel$Judgement;" } : Jvm.MethodName), 12)) 8 (by decide +kernel))⟩
theorem Y_TK_103 (HG : z_ok G) : z_Yv G "TypeKernel" 103 m_Rw_normalize 2 := ⟨⟨cd_Rw_normalize HG, by decide +kernel, by decide, ⟨⟨by decide +kernel, by decide +kernel⟩, by decide +kernel⟩, Or.inl (HG.mem (k_in 425 (by decide +kernel) rfl))⟩, HG.mem (k_in 426 (by decide +kernel) rfl), HG.mem (k_in 427 (by decide +kernel) rfl)⟩
theorem Y_TK_107 (HG : z_ok G) : z_Yv G "TypeKernel" 107 m_Row_at 1 := ⟨⟨cd_Row_at HG, by decide +kernel, by decide, ⟨⟨by decide +kernel, by decide +kernel⟩, by decide +kernel⟩, Or.inl (HG.mem (k_in 200 (by decide +kernel) rfl))⟩, HG.mem (k_in 201 (by decide +kernel) rfl), HG.mem (k_in 202 (by decide +kernel) rfl)⟩
theorem Y_TK_114 (HG : z_ok G) : z_Yv G "TypeKernel" 114 m_Row_endOf 1 := ⟨⟨cd_Row_endOf HG, by decide +kernel, by decide, ⟨⟨by decide +kernel, by decide +kernel⟩, by decide +kernel⟩, Or.inl (HG.mem (k_in 489 (by decide +kernel) rfl))⟩, HG.mem (k_in 439 (by decide +kernel) rfl), HG.mem (k_in 440 (by decide +kernel) rfl)⟩
theorem Y_TK_117 (HG : z_ok G) : z_Yv G "TypeKernel" 117 m_Row_isPart 3 := ⟨⟨cd_Row_isPart HG, by decide +kernel, by decide, ⟨⟨by decide +kernel, by decide +kernel⟩, by decide +kernel⟩, Or.inl (HG.mem (k_in 490 (by decide +kernel) rfl))⟩, HG.mem (k_in 491 (by decide +kernel) rfl), HG.mem (k_in 492 (by decide +kernel) rfl)⟩
theorem Y_TK_121 (HG : z_ok G) : z_Yv G "TypeKernel" 121 m_Row_join 3 := ⟨⟨cd_Row_join HG, by decide +kernel, by decide, ⟨⟨by decide +kernel, by decide +kernel⟩, by decide +kernel⟩, Or.inl (HG.mem (k_in 494 (by decide +kernel) rfl))⟩, HG.mem (k_in 495 (by decide +kernel) rfl), HG.mem (k_in 496 (by decide +kernel) rfl)⟩
theorem Y_TK_125 (HG : z_ok G) : z_Yv G "TypeKernel" 125 m_Rw_appendBodyWith 5 := ⟨⟨cd_Rw_appendBodyWith HG, by decide +kernel, by decide, ⟨⟨by decide +kernel, by decide +kernel⟩, by decide +kernel⟩, Or.inl (HG.mem (k_in 500 (by decide +kernel) rfl))⟩, HG.mem (k_in 452 (by decide +kernel) rfl), HG.mem (k_in 453 (by decide +kernel) rfl)⟩
theorem Y_TK_132 (HG : z_ok G) : z_Yv G "TypeKernel" 132 m_Row_is 1 := ⟨⟨cd_Row_is HG, by decide +kernel, by decide, ⟨⟨by decide +kernel, by decide +kernel⟩, by decide +kernel⟩, Or.inl (HG.mem (k_in 508 (by decide +kernel) rfl))⟩, HG.mem (k_in 509 (by decide +kernel) rfl), HG.mem (k_in 510 (by decide +kernel) rfl)⟩
theorem Y_TK_135 (HG : z_ok G) : z_Yv G "TypeKernel" 135 m_TK_onlyPresentJudgement 0 := ⟨⟨cd_TK_onlyPresentJudgement HG, by decide +kernel, by decide, ⟨⟨by decide +kernel, by decide +kernel⟩, by decide +kernel⟩, Or.inl (HG.mem (k_in 519 (by decide +kernel) rfl))⟩, HG.mem (k_in 521 (by decide +kernel) rfl), HG.mem (k_inp (q := (({ cls := "TypeKernel", name := "onlyPresentJudgement", desc := "()LTypeKernel$Judgement;" } : Jvm.MethodName), 12)) 16 (by decide +kernel))⟩
theorem Y_TK_138 (HG : z_ok G) : z_Yv G "TypeKernel" 138 m_TK_bind 1 := ⟨⟨cd_TK_bind HG, by decide +kernel, by decide, ⟨⟨by decide +kernel, by decide +kernel⟩, by decide +kernel⟩, Or.inl (HG.mem (k_in 523 (by decide +kernel) rfl))⟩, HG.mem (k_in 525 (by decide +kernel) rfl), HG.mem (k_inp (q := (({ cls := "TypeKernel", name := "bind", desc := "(LTypeKernel$Judgement;)V" } : Jvm.MethodName), 12)) 17 (by decide +kernel))⟩
theorem Y_TK_142 (HG : z_ok G) : z_Ys G "TypeKernel" 142 m_TK_hasSort 1 := ⟨⟨cd_TK_hasSort HG, by decide +kernel, by decide, ⟨⟨by decide +kernel, by decide +kernel⟩, by decide +kernel⟩, Or.inl (HG.mem (k_in 534 (by decide +kernel) rfl))⟩, HG.mem (k_in 535 (by decide +kernel) rfl), HG.mem (k_in 1 (by decide +kernel) rfl)⟩
theorem L_TK_149 (HG : z_ok G) : z_lnk G "TypeKernel" 149 F_Rw 1 := Or.inr ⟨"TypeKernel", HG.mem (k_in 93 (by decide +kernel) rfl)⟩
theorem L_TK_149K (HG : z_ok G) : z_cls G 4 R_Rw F_Rw 7 t_Rw := K_Rw HG
theorem Y_TK_152 (HG : z_ok G) : z_Yv G "TypeKernel" 152 m_TK_isLeftSide 1 := ⟨⟨cd_TK_isLeftSide HG, by decide +kernel, by decide, ⟨⟨by decide +kernel, by decide +kernel⟩, by decide +kernel⟩, Or.inl (HG.mem (k_in 551 (by decide +kernel) rfl))⟩, HG.mem (k_in 553 (by decide +kernel) rfl), HG.mem (k_inp (q := (({ cls := "TypeKernel", name := "isLeftSide", desc := "(LTypeKernel$Row;)Z" } : Jvm.MethodName), 12)) 18 (by decide +kernel))⟩
theorem Y_TK_156 (HG : z_ok G) : z_Yv G "TypeKernel" 156 m_Row_equalsRow 1 := ⟨⟨cd_Row_equalsRow HG, by decide +kernel, by decide, ⟨⟨by decide +kernel, by decide +kernel⟩, by decide +kernel⟩, Or.inl (HG.mem (k_in 566 (by decide +kernel) rfl))⟩, HG.mem (k_in 567 (by decide +kernel) rfl), HG.mem (k_in 568 (by decide +kernel) rfl)⟩
theorem Y_TK_159 (HG : z_ok G) : z_Yv G "TypeKernel" 159 m_Rw_addRule 3 := ⟨⟨cd_Rw_addRule HG, by decide +kernel, by decide, ⟨⟨by decide +kernel, by decide +kernel⟩, by decide +kernel⟩, Or.inl (HG.mem (k_in 571 (by decide +kernel) rfl))⟩, HG.mem (k_in 572 (by decide +kernel) rfl), HG.mem (k_in 573 (by decide +kernel) rfl)⟩
theorem Y_TK_163 (HG : z_ok G) : z_Yv G "TypeKernel" 163 m_TK_neededJudgement 1 := ⟨⟨cd_TK_neededJudgement HG, by decide +kernel, by decide, ⟨⟨by decide +kernel, by decide +kernel⟩, by decide +kernel⟩, Or.inl (HG.mem (k_in 406 (by decide +kernel) rfl))⟩, HG.mem (k_in 408 (by decide +kernel) rfl), HG.mem (k_inp (q := (({ cls := "TypeKernel", name := "neededJudgement", desc := "(I)LTypeKernel$Judgement;" } : Jvm.MethodName), 12)) 9 (by decide +kernel))⟩
theorem L_TK_166 (HG : z_ok G) : z_lnk G "TypeKernel" 166 F_Jd 2 := Or.inr ⟨"TypeKernel", HG.mem (k_in 127 (by decide +kernel) rfl)⟩
theorem L_TK_166K (HG : z_ok G) : z_cls G 1 R_Jd F_Jd 3 t_Jd := K_Jd HG
theorem Y_TK_169 (HG : z_ok G) : z_Yv G "TypeKernel" 169 m_TK_presentCount 0 := ⟨⟨cd_TK_presentCount HG, by decide +kernel, by decide, ⟨⟨by decide +kernel, by decide +kernel⟩, by decide +kernel⟩, Or.inl (HG.mem (k_in 180 (by decide +kernel) rfl))⟩, HG.mem (k_in 182 (by decide +kernel) rfl), HG.mem (k_inp (q := (({ cls := "TypeKernel", name := "presentCount", desc := "()I" } : Jvm.MethodName), 12)) 0 (by decide +kernel))⟩
theorem Y_TK_173 (HG : z_ok G) : z_Yv G "TypeKernel" 173 m_TK_isJudgement 1 := ⟨⟨cd_TK_isJudgement HG, by decide +kernel, by decide, ⟨⟨by decide +kernel, by decide +kernel⟩, by decide +kernel⟩, Or.inl (HG.mem (k_in 192 (by decide +kernel) rfl))⟩, HG.mem (k_in 194 (by decide +kernel) rfl), HG.mem (k_inp (q := (({ cls := "TypeKernel", name := "isJudgement", desc := "(I)Z" } : Jvm.MethodName), 12)) 1 (by decide +kernel))⟩
theorem Y_TK_176 (HG : z_ok G) : z_Yv G "TypeKernel" 176 m_TK_judgementAt 1 := ⟨⟨cd_TK_judgementAt HG, by decide +kernel, by decide, ⟨⟨by decide +kernel, by decide +kernel⟩, by decide +kernel⟩, Or.inl (HG.mem (k_in 196 (by decide +kernel) rfl))⟩, HG.mem (k_in 198 (by decide +kernel) rfl), HG.mem (k_inp (q := (({ cls := "TypeKernel", name := "judgementAt", desc := "(I)LTypeKernel$Judgement;" } : Jvm.MethodName), 12)) 2 (by decide +kernel))⟩
theorem L_TK_179 (HG : z_ok G) : z_lnk G "TypeKernel" 179 F_Rw 0 := Or.inr ⟨"TypeKernel", HG.mem (k_in 91 (by decide +kernel) rfl)⟩
theorem L_TK_179K (HG : z_ok G) : z_cls G 4 R_Rw F_Rw 7 t_Rw := K_Rw HG
theorem L_TK_183 (HG : z_ok G) : z_lnk G "TypeKernel" 183 F_Ru 2 := Or.inr ⟨"TypeKernel", HG.mem (k_in 82 (by decide +kernel) rfl)⟩
theorem L_TK_183K (HG : z_ok G) : z_cls G 2 R_Ru F_Ru 3 t_Ru := K_Ru HG
theorem L_TK_188 (HG : z_ok G) : z_lnk G "TypeKernel" 188 F_Ru 1 := Or.inr ⟨"TypeKernel", HG.mem (k_in 79 (by decide +kernel) rfl)⟩
theorem L_TK_188K (HG : z_ok G) : z_cls G 2 R_Ru F_Ru 3 t_Ru := K_Ru HG
theorem L_TK_191 (HG : z_ok G) : z_lnk G "TypeKernel" 191 F_Ru 0 := Or.inr ⟨"TypeKernel", HG.mem (k_in 76 (by decide +kernel) rfl)⟩
theorem L_TK_191K (HG : z_ok G) : z_cls G 2 R_Ru F_Ru 3 t_Ru := K_Ru HG
theorem Y_TK_194 (HG : z_ok G) : z_Yv G "TypeKernel" 194 m_Row_headOf 1 := ⟨⟨cd_Row_headOf HG, by decide +kernel, by decide, ⟨⟨by decide +kernel, by decide +kernel⟩, by decide +kernel⟩, Or.inl (HG.mem (k_in 555 (by decide +kernel) rfl))⟩, HG.mem (k_in 556 (by decide +kernel) rfl), HG.mem (k_in 557 (by decide +kernel) rfl)⟩
theorem L_TK_197 (HG : z_ok G) : z_lnk G "TypeKernel" 197 F_Row 1 := Or.inr ⟨"TypeKernel", HG.mem (k_in 46 (by decide +kernel) rfl)⟩
theorem L_TK_197K (HG : z_ok G) : z_cls G 0 R_Row F_Row 2 t_Row := K_Row HG
theorem Y_TK_200 (HG : z_ok G) : z_Ys G "TypeKernel" 200 m_TK_mayStandInPattern 2 := ⟨⟨cd_TK_mayStandInPattern HG, by decide +kernel, by decide, ⟨⟨by decide +kernel, by decide +kernel⟩, by decide +kernel⟩, Or.inl (HG.mem (k_in 559 (by decide +kernel) rfl))⟩, HG.mem (k_in 560 (by decide +kernel) rfl), HG.mem (k_in 1 (by decide +kernel) rfl)⟩
theorem Y_TK_204 (HG : z_ok G) : z_Yv G "TypeKernel" 204 m_Row_countOf 1 := ⟨⟨cd_Row_countOf HG, by decide +kernel, by decide, ⟨⟨by decide +kernel, by decide +kernel⟩, by decide +kernel⟩, Or.inl (HG.mem (k_in 562 (by decide +kernel) rfl))⟩, HG.mem (k_in 563 (by decide +kernel) rfl), HG.mem (k_in 564 (by decide +kernel) rfl)⟩
theorem L_Md_7 (HG : z_ok G) : z_lnk G "TypeKernelModel" 7 F_Md 1 := Or.inl (HG.mem (k_in 596 (by decide +kernel) rfl))
theorem L_Md_7K (HG : z_ok G) : z_cls G 6 R_Md F_Md 16 t_Md := K_Md HG
theorem L_Md_13 (HG : z_ok G) : z_lnk G "TypeKernelModel" 13 F_Md 2 := Or.inl (HG.mem (k_in 597 (by decide +kernel) rfl))
theorem L_Md_13K (HG : z_ok G) : z_cls G 6 R_Md F_Md 16 t_Md := K_Md HG
theorem L_Md_16 (HG : z_ok G) : z_lnk G "TypeKernelModel" 16 F_Md 4 := Or.inl (HG.mem (k_in 599 (by decide +kernel) rfl))
theorem L_Md_16K (HG : z_ok G) : z_cls G 6 R_Md F_Md 16 t_Md := K_Md HG
theorem L_Md_19 (HG : z_ok G) : z_lnk G "TypeKernelModel" 19 F_Md 7 := Or.inl (HG.mem (k_in 602 (by decide +kernel) rfl))
theorem L_Md_19K (HG : z_ok G) : z_cls G 6 R_Md F_Md 16 t_Md := K_Md HG
theorem L_Md_23 (HG : z_ok G) : z_lnk G "TypeKernelModel" 23 F_Md 9 := Or.inl (HG.mem (k_in 604 (by decide +kernel) rfl))
theorem L_Md_23K (HG : z_ok G) : z_cls G 6 R_Md F_Md 16 t_Md := K_Md HG
theorem L_Md_26 (HG : z_ok G) : z_lnk G "TypeKernelModel" 26 F_Md 11 := Or.inl (HG.mem (k_in 606 (by decide +kernel) rfl))
theorem L_Md_26K (HG : z_ok G) : z_cls G 6 R_Md F_Md 16 t_Md := K_Md HG
theorem L_Md_29 (HG : z_ok G) : z_lnk G "TypeKernelModel" 29 F_Md 12 := Or.inl (HG.mem (k_in 607 (by decide +kernel) rfl))
theorem L_Md_29K (HG : z_ok G) : z_cls G 6 R_Md F_Md 16 t_Md := K_Md HG
theorem L_Md_32 (HG : z_ok G) : z_lnk G "TypeKernelModel" 32 F_Md 13 := Or.inl (HG.mem (k_in 608 (by decide +kernel) rfl))
theorem L_Md_32K (HG : z_ok G) : z_cls G 6 R_Md F_Md 16 t_Md := K_Md HG
theorem L_Md_35 (HG : z_ok G) : z_lnk G "TypeKernelModel" 35 F_Md 14 := Or.inl (HG.mem (k_in 609 (by decide +kernel) rfl))
theorem L_Md_35K (HG : z_ok G) : z_cls G 6 R_Md F_Md 16 t_Md := K_Md HG
theorem L_Md_38 (HG : z_ok G) : z_lnk G "TypeKernelModel" 38 F_Md 15 := Or.inl (HG.mem (k_in 610 (by decide +kernel) rfl))
theorem L_Md_38K (HG : z_ok G) : z_cls G 6 R_Md F_Md 16 t_Md := K_Md HG
theorem L_Md_41 (HG : z_ok G) : z_lnk G "TypeKernelModel" 41 F_Md 0 := Or.inl (HG.mem (k_in 595 (by decide +kernel) rfl))
theorem L_Md_41K (HG : z_ok G) : z_cls G 6 R_Md F_Md 16 t_Md := K_Md HG
theorem L_Md_45 (HG : z_ok G) : z_lnk G "TypeKernelModel" 45 F_Md 10 := Or.inl (HG.mem (k_in 605 (by decide +kernel) rfl))
theorem L_Md_45K (HG : z_ok G) : z_cls G 6 R_Md F_Md 16 t_Md := K_Md HG
theorem Y_Md_49 (HG : z_ok G) : z_Yv G "TypeKernelModel" 49 m_Md_at 2 := ⟨⟨cd_Md_at HG, by decide +kernel, by decide, ⟨⟨by decide +kernel, by decide +kernel⟩, by decide +kernel⟩, Or.inl (HG.mem (k_in 668 (by decide +kernel) rfl))⟩, HG.mem (k_in 670 (by decide +kernel) rfl), HG.mem (k_inp (q := (({ cls := "TypeKernelModel", name := "at", desc := "(II)I" } : Jvm.MethodName), 16)) 22 (by decide +kernel))⟩
theorem Y_Md_53 (HG : z_ok G) : z_Yv G "TypeKernelModel" 53 m_Md_add 2 := ⟨⟨cd_Md_add HG, by decide +kernel, by decide, ⟨⟨by decide +kernel, by decide +kernel⟩, by decide +kernel⟩, Or.inl (HG.mem (k_in 656 (by decide +kernel) rfl))⟩, HG.mem (k_in 658 (by decide +kernel) rfl), HG.mem (k_inp (q := (({ cls := "TypeKernelModel", name := "add", desc := "(II)V" } : Jvm.MethodName), 16)) 20 (by decide +kernel))⟩
theorem Y_Md_57 (HG : z_ok G) : z_Yv G "TypeKernelModel" 57 m_Md_addRow 2 := ⟨⟨cd_Md_addRow HG, by decide +kernel, by decide, ⟨⟨by decide +kernel, by decide +kernel⟩, by decide +kernel⟩, Or.inl (HG.mem (k_in 664 (by decide +kernel) rfl))⟩, HG.mem (k_in 666 (by decide +kernel) rfl), HG.mem (k_inp (q := (({ cls := "TypeKernelModel", name := "addRow", desc := "(II)V" } : Jvm.MethodName), 16)) 21 (by decide +kernel))⟩
theorem Y_Md_60 (HG : z_ok G) : z_Ys G "TypeKernelModel" 60 m_Md_isPair 1 := ⟨⟨cd_Md_isPair HG, by decide +kernel, by decide, ⟨⟨by decide +kernel, by decide +kernel⟩, by decide +kernel⟩, Or.inl (HG.mem (k_in 680 (by decide +kernel) rfl))⟩, HG.mem (k_in 681 (by decide +kernel) rfl), HG.mem (k_in 7 (by decide +kernel) rfl)⟩
theorem Y_Md_64 (HG : z_ok G) : z_Yv G "TypeKernelModel" 64 m_Md_addShifted 5 := ⟨⟨cd_Md_addShifted HG, by decide +kernel, by decide, ⟨⟨by decide +kernel, by decide +kernel⟩, by decide +kernel⟩, Or.inl (HG.mem (k_in 683 (by decide +kernel) rfl))⟩, HG.mem (k_in 685 (by decide +kernel) rfl), HG.mem (k_inp (q := (({ cls := "TypeKernelModel", name := "addShifted", desc := "(IIIII)V" } : Jvm.MethodName), 16)) 24 (by decide +kernel))⟩
theorem Y_Md_68 (HG : z_ok G) : z_Yv G "TypeKernelModel" 68 m_Md_end 2 := ⟨⟨cd_Md_end HG, by decide +kernel, by decide, ⟨⟨by decide +kernel, by decide +kernel⟩, by decide +kernel⟩, Or.inl (HG.mem (k_in 719 (by decide +kernel) rfl))⟩, HG.mem (k_in 721 (by decide +kernel) rfl), HG.mem (k_inp (q := (({ cls := "TypeKernelModel", name := "end", desc := "(II)I" } : Jvm.MethodName), 16)) 32 (by decide +kernel))⟩
theorem Y_Md_71 (HG : z_ok G) : z_Yv G "TypeKernelModel" 71 m_Md_measure 2 := ⟨⟨cd_Md_measure HG, by decide +kernel, by decide, ⟨⟨by decide +kernel, by decide +kernel⟩, by decide +kernel⟩, Or.inl (HG.mem (k_in 676 (by decide +kernel) rfl))⟩, HG.mem (k_in 678 (by decide +kernel) rfl), HG.mem (k_inp (q := (({ cls := "TypeKernelModel", name := "measure", desc := "(IZ)V" } : Jvm.MethodName), 16)) 23 (by decide +kernel))⟩
theorem L_Md_75 (HG : z_ok G) : z_lnk G "TypeKernelModel" 75 F_Md 8 := Or.inl (HG.mem (k_in 603 (by decide +kernel) rfl))
theorem L_Md_75K (HG : z_ok G) : z_cls G 6 R_Md F_Md 16 t_Md := K_Md HG
theorem Y_Md_78 (HG : z_ok G) : z_Yv G "TypeKernelModel" 78 m_Md_matches 2 := ⟨⟨cd_Md_matches HG, by decide +kernel, by decide, ⟨⟨by decide +kernel, by decide +kernel⟩, by decide +kernel⟩, Or.inl (HG.mem (k_in 715 (by decide +kernel) rfl))⟩, HG.mem (k_in 717 (by decide +kernel) rfl), HG.mem (k_inp (q := (({ cls := "TypeKernelModel", name := "matches", desc := "(II)Z" } : Jvm.MethodName), 16)) 31 (by decide +kernel))⟩
theorem Y_Md_82 (HG : z_ok G) : z_Yv G "TypeKernelModel" 82 m_Md_addPut 6 := ⟨⟨cd_Md_addPut HG, by decide +kernel, by decide, ⟨⟨by decide +kernel, by decide +kernel⟩, by decide +kernel⟩, Or.inl (HG.mem (k_in 727 (by decide +kernel) rfl))⟩, HG.mem (k_in 729 (by decide +kernel) rfl), HG.mem (k_inp (q := (({ cls := "TypeKernelModel", name := "addPut", desc := "(IIIIII)V" } : Jvm.MethodName), 16)) 34 (by decide +kernel))⟩
theorem Y_Md_86 (HG : z_ok G) : z_Yv G "TypeKernelModel" 86 m_Md_addResult 1 := ⟨⟨cd_Md_addResult HG, by decide +kernel, by decide, ⟨⟨by decide +kernel, by decide +kernel⟩, by decide +kernel⟩, Or.inl (HG.mem (k_in 731 (by decide +kernel) rfl))⟩, HG.mem (k_in 733 (by decide +kernel) rfl), HG.mem (k_inp (q := (({ cls := "TypeKernelModel", name := "addResult", desc := "(I)V" } : Jvm.MethodName), 16)) 35 (by decide +kernel))⟩
theorem Y_Md_90 (HG : z_ok G) : z_Yv G "TypeKernelModel" 90 m_Md_copy 2 := ⟨⟨cd_Md_copy HG, by decide +kernel, by decide, ⟨⟨by decide +kernel, by decide +kernel⟩, by decide +kernel⟩, Or.inl (HG.mem (k_in 703 (by decide +kernel) rfl))⟩, HG.mem (k_in 705 (by decide +kernel) rfl), HG.mem (k_inp (q := (({ cls := "TypeKernelModel", name := "copy", desc := "(II)V" } : Jvm.MethodName), 16)) 28 (by decide +kernel))⟩
theorem Y_Md_93 (HG : z_ok G) : z_Yv G "TypeKernelModel" 93 m_Md_redex 1 := ⟨⟨cd_Md_redex HG, by decide +kernel, by decide, ⟨⟨by decide +kernel, by decide +kernel⟩, by decide +kernel⟩, Or.inl (HG.mem (k_in 711 (by decide +kernel) rfl))⟩, HG.mem (k_in 713 (by decide +kernel) rfl), HG.mem (k_inp (q := (({ cls := "TypeKernelModel", name := "redex", desc := "(I)I" } : Jvm.MethodName), 16)) 30 (by decide +kernel))⟩
theorem Y_Md_97 (HG : z_ok G) : z_Yv G "TypeKernelModel" 97 m_Md_step 2 := ⟨⟨cd_Md_step HG, by decide +kernel, by decide, ⟨⟨by decide +kernel, by decide +kernel⟩, by decide +kernel⟩, Or.inl (HG.mem (k_in 723 (by decide +kernel) rfl))⟩, HG.mem (k_in 725 (by decide +kernel) rfl), HG.mem (k_inp (q := (({ cls := "TypeKernelModel", name := "step", desc := "(II)V" } : Jvm.MethodName), 16)) 33 (by decide +kernel))⟩
theorem Y_Md_100 (HG : z_ok G) : z_Yv G "TypeKernelModel" 100 m_Md_normalise 0 := ⟨⟨cd_Md_normalise HG, by decide +kernel, by decide, ⟨⟨by decide +kernel, by decide +kernel⟩, by decide +kernel⟩, Or.inl (HG.mem (k_in 707 (by decide +kernel) rfl))⟩, HG.mem (k_in 709 (by decide +kernel) rfl), HG.mem (k_inp (q := (({ cls := "TypeKernelModel", name := "normalise", desc := "()I" } : Jvm.MethodName), 16)) 29 (by decide +kernel))⟩
theorem L_Md_104 (HG : z_ok G) : z_lnk G "TypeKernelModel" 104 F_Md 5 := Or.inl (HG.mem (k_in 600 (by decide +kernel) rfl))
theorem L_Md_104K (HG : z_ok G) : z_cls G 6 R_Md F_Md 16 t_Md := K_Md HG
theorem L_Md_107 (HG : z_ok G) : z_lnk G "TypeKernelModel" 107 F_Md 3 := Or.inl (HG.mem (k_in 598 (by decide +kernel) rfl))
theorem L_Md_107K (HG : z_ok G) : z_cls G 6 R_Md F_Md 16 t_Md := K_Md HG
theorem Y_Md_110 (HG : z_ok G) : z_Yv G "TypeKernelModel" 110 m_Md_present 1 := ⟨⟨cd_Md_present HG, by decide +kernel, by decide, ⟨⟨by decide +kernel, by decide +kernel⟩, by decide +kernel⟩, Or.inl (HG.mem (k_in 695 (by decide +kernel) rfl))⟩, HG.mem (k_in 697 (by decide +kernel) rfl), HG.mem (k_inp (q := (({ cls := "TypeKernelModel", name := "present", desc := "(I)Z" } : Jvm.MethodName), 16)) 26 (by decide +kernel))⟩
theorem Y_Md_113 (HG : z_ok G) : z_Yv G "TypeKernelModel" 113 m_Md_push 0 := ⟨⟨cd_Md_push HG, by decide +kernel, by decide, ⟨⟨by decide +kernel, by decide +kernel⟩, by decide +kernel⟩, Or.inl (HG.mem (k_in 652 (by decide +kernel) rfl))⟩, HG.mem (k_in 654 (by decide +kernel) rfl), HG.mem (k_inp (q := (({ cls := "TypeKernelModel", name := "push", desc := "()Z" } : Jvm.MethodName), 16)) 19 (by decide +kernel))⟩
theorem L_Md_117 (HG : z_ok G) : z_lnk G "TypeKernelModel" 117 F_Md 6 := Or.inl (HG.mem (k_in 601 (by decide +kernel) rfl))
theorem L_Md_117K (HG : z_ok G) : z_cls G 6 R_Md F_Md 16 t_Md := K_Md HG
theorem Y_Md_120 (HG : z_ok G) : z_Yv G "TypeKernelModel" 120 m_Md_normalOf 1 := ⟨⟨cd_Md_normalOf HG, by decide +kernel, by decide, ⟨⟨by decide +kernel, by decide +kernel⟩, by decide +kernel⟩, Or.inl (HG.mem (k_in 699 (by decide +kernel) rfl))⟩, HG.mem (k_in 701 (by decide +kernel) rfl), HG.mem (k_inp (q := (({ cls := "TypeKernelModel", name := "normalOf", desc := "(I)I" } : Jvm.MethodName), 16)) 27 (by decide +kernel))⟩
theorem Y_Md_123 (HG : z_ok G) : z_Yv G "TypeKernelModel" 123 m_Md_putTerm 2 := ⟨⟨cd_Md_putTerm HG, by decide +kernel, by decide, ⟨⟨by decide +kernel, by decide +kernel⟩, by decide +kernel⟩, Or.inl (HG.mem (k_in 735 (by decide +kernel) rfl))⟩, HG.mem (k_in 737 (by decide +kernel) rfl), HG.mem (k_inp (q := (({ cls := "TypeKernelModel", name := "putTerm", desc := "(II)V" } : Jvm.MethodName), 16)) 36 (by decide +kernel))⟩
theorem Y_Md_126 (HG : z_ok G) : z_Yv G "TypeKernelModel" 126 m_Md_applied 0 := ⟨⟨cd_Md_applied HG, by decide +kernel, by decide, ⟨⟨by decide +kernel, by decide +kernel⟩, by decide +kernel⟩, Or.inl (HG.mem (k_in 691 (by decide +kernel) rfl))⟩, HG.mem (k_in 693 (by decide +kernel) rfl), HG.mem (k_inp (q := (({ cls := "TypeKernelModel", name := "applied", desc := "()I" } : Jvm.MethodName), 16)) 25 (by decide +kernel))⟩
theorem Y_Md_129 (HG : z_ok G) : z_Yv G "TypeKernelModel" 129 m_Md_isOne 2 := ⟨⟨cd_Md_isOne HG, by decide +kernel, by decide, ⟨⟨by decide +kernel, by decide +kernel⟩, by decide +kernel⟩, Or.inl (HG.mem (k_in 743 (by decide +kernel) rfl))⟩, HG.mem (k_in 745 (by decide +kernel) rfl), HG.mem (k_inp (q := (({ cls := "TypeKernelModel", name := "isOne", desc := "(II)Z" } : Jvm.MethodName), 16)) 37 (by decide +kernel))⟩
theorem Y_Md_132 (HG : z_ok G) : z_Yv G "TypeKernelModel" 132 m_Md_alone 0 := ⟨⟨cd_Md_alone HG, by decide +kernel, by decide, ⟨⟨by decide +kernel, by decide +kernel⟩, by decide +kernel⟩, Or.inl (HG.mem (k_in 755 (by decide +kernel) rfl))⟩, HG.mem (k_in 757 (by decide +kernel) rfl), HG.mem (k_inp (q := (({ cls := "TypeKernelModel", name := "alone", desc := "()Z" } : Jvm.MethodName), 16)) 39 (by decide +kernel))⟩
theorem Y_Md_135 (HG : z_ok G) : z_Yv G "TypeKernelModel" 135 m_Md_canBind 0 := ⟨⟨cd_Md_canBind HG, by decide +kernel, by decide, ⟨⟨by decide +kernel, by decide +kernel⟩, by decide +kernel⟩, Or.inl (HG.mem (k_in 751 (by decide +kernel) rfl))⟩, HG.mem (k_in 753 (by decide +kernel) rfl), HG.mem (k_inp (q := (({ cls := "TypeKernelModel", name := "canBind", desc := "()Z" } : Jvm.MethodName), 16)) 38 (by decide +kernel))⟩
theorem Y_Md_138 (HG : z_ok G) : z_Yv G "TypeKernelModel" 138 m_Md_binds 2 := ⟨⟨cd_Md_binds HG, by decide +kernel, by decide, ⟨⟨by decide +kernel, by decide +kernel⟩, by decide +kernel⟩, Or.inl (HG.mem (k_in 759 (by decide +kernel) rfl))⟩, HG.mem (k_in 761 (by decide +kernel) rfl), HG.mem (k_inp (q := (({ cls := "TypeKernelModel", name := "binds", desc := "(II)Z" } : Jvm.MethodName), 16)) 40 (by decide +kernel))⟩
theorem Y_Md_141 (HG : z_ok G) : z_Yv G "TypeKernelModel" 141 m_Md_close 0 := ⟨⟨cd_Md_close HG, by decide +kernel, by decide, ⟨⟨by decide +kernel, by decide +kernel⟩, by decide +kernel⟩, Or.inl (HG.mem (k_in 763 (by decide +kernel) rfl))⟩, HG.mem (k_in 765 (by decide +kernel) rfl), HG.mem (k_inp (q := (({ cls := "TypeKernelModel", name := "close", desc := "()V" } : Jvm.MethodName), 16)) 41 (by decide +kernel))⟩
theorem Y_Md_144 (HG : z_ok G) : z_Yv G "TypeKernelModel" 144 m_Md_isLeft 1 := ⟨⟨cd_Md_isLeft HG, by decide +kernel, by decide, ⟨⟨by decide +kernel, by decide +kernel⟩, by decide +kernel⟩, Or.inl (HG.mem (k_in 783 (by decide +kernel) rfl))⟩, HG.mem (k_in 785 (by decide +kernel) rfl), HG.mem (k_inp (q := (({ cls := "TypeKernelModel", name := "isLeft", desc := "(I)Z" } : Jvm.MethodName), 16)) 43 (by decide +kernel))⟩
theorem Y_Md_147 (HG : z_ok G) : z_Yv G "TypeKernelModel" 147 m_Md_equal 2 := ⟨⟨cd_Md_equal HG, by decide +kernel, by decide, ⟨⟨by decide +kernel, by decide +kernel⟩, by decide +kernel⟩, Or.inl (HG.mem (k_in 787 (by decide +kernel) rfl))⟩, HG.mem (k_in 789 (by decide +kernel) rfl), HG.mem (k_inp (q := (({ cls := "TypeKernelModel", name := "equal", desc := "(II)Z" } : Jvm.MethodName), 16)) 44 (by decide +kernel))⟩
theorem Y_Md_150 (HG : z_ok G) : z_Yv G "TypeKernelModel" 150 m_Md_ruled 0 := ⟨⟨cd_Md_ruled HG, by decide +kernel, by decide, ⟨⟨by decide +kernel, by decide +kernel⟩, by decide +kernel⟩, Or.inl (HG.mem (k_in 779 (by decide +kernel) rfl))⟩, HG.mem (k_in 781 (by decide +kernel) rfl), HG.mem (k_inp (q := (({ cls := "TypeKernelModel", name := "ruled", desc := "()I" } : Jvm.MethodName), 16)) 42 (by decide +kernel))⟩
theorem Y_Md_153 (HG : z_ok G) : z_Yv G "TypeKernelModel" 153 m_Md_raise 1 := ⟨⟨cd_Md_raise HG, by decide +kernel, by decide, ⟨⟨by decide +kernel, by decide +kernel⟩, by decide +kernel⟩, Or.inl (HG.mem (k_in 795 (by decide +kernel) rfl))⟩, HG.mem (k_in 797 (by decide +kernel) rfl), HG.mem (k_inp (q := (({ cls := "TypeKernelModel", name := "raise", desc := "(I)I" } : Jvm.MethodName), 16)) 45 (by decide +kernel))⟩
theorem Y_Md_156 (HG : z_ok G) : z_Yv G "TypeKernelModel" 156 m_Md_seen 2 := ⟨⟨cd_Md_seen HG, by decide +kernel, by decide, ⟨⟨by decide +kernel, by decide +kernel⟩, by decide +kernel⟩, Or.inl (HG.mem (k_in 819 (by decide +kernel) rfl))⟩, HG.mem (k_in 821 (by decide +kernel) rfl), HG.mem (k_inp (q := (({ cls := "TypeKernelModel", name := "seen", desc := "(II)I" } : Jvm.MethodName), 16)) 46 (by decide +kernel))⟩
theorem Y_Jd_9 (HG : z_ok G) : z_Yi G "TypeKernel$Judgement" 9 m_Row_init := ⟨⟨cd_Row_init HG, by decide +kernel, by decide, ⟨⟨by decide +kernel, by decide +kernel⟩, by decide +kernel⟩, Or.inr ⟨"TypeKernel", HG.mem (k_in 121 (by decide +kernel) rfl)⟩⟩, rfl, rfl, rfl, HG.mem (k_in 41 (by decide +kernel) rfl), HG.mem (k_in 40 (by decide +kernel) rfl)⟩
theorem L_Jd_10 (HG : z_ok G) : z_lnk G "TypeKernel$Judgement" 10 F_Jd 0 := Or.inl (HG.mem (k_in 122 (by decide +kernel) rfl))
theorem L_Jd_10K (HG : z_ok G) : z_cls G 1 R_Jd F_Jd 3 t_Jd := K_Jd HG
theorem L_Jd_16 (HG : z_ok G) : z_lnk G "TypeKernel$Judgement" 16 F_Jd 1 := Or.inl (HG.mem (k_in 124 (by decide +kernel) rfl))
theorem L_Jd_16K (HG : z_ok G) : z_cls G 1 R_Jd F_Jd 3 t_Jd := K_Jd HG
theorem L_Jd_19 (HG : z_ok G) : z_lnk G "TypeKernel$Judgement" 19 F_Jd 2 := Or.inl (HG.mem (k_in 126 (by decide +kernel) rfl))
theorem L_Jd_19K (HG : z_ok G) : z_cls G 1 R_Jd F_Jd 3 t_Jd := K_Jd HG
theorem L_Rw_11 (HG : z_ok G) : z_lnk G "TypeKernel$Rewriter" 11 F_Rw 0 := Or.inl (HG.mem (k_in 90 (by decide +kernel) rfl))
theorem L_Rw_11K (HG : z_ok G) : z_cls G 4 R_Rw F_Rw 7 t_Rw := K_Rw HG
theorem L_Rw_17 (HG : z_ok G) : z_lnk G "TypeKernel$Rewriter" 17 F_Rw 1 := Or.inl (HG.mem (k_in 92 (by decide +kernel) rfl))
theorem L_Rw_17K (HG : z_ok G) : z_cls G 4 R_Rw F_Rw 7 t_Rw := K_Rw HG
theorem Y_Rw_23 (HG : z_ok G) : z_Yi G "TypeKernel$Rewriter" 23 m_Row_init := ⟨⟨cd_Row_init HG, by decide +kernel, by decide, ⟨⟨by decide +kernel, by decide +kernel⟩, by decide +kernel⟩, Or.inr ⟨"TypeKernel", HG.mem (k_in 39 (by decide +kernel) rfl)⟩⟩, rfl, rfl, rfl, HG.mem (k_in 41 (by decide +kernel) rfl), HG.mem (k_in 40 (by decide +kernel) rfl)⟩
theorem L_Rw_24 (HG : z_ok G) : z_lnk G "TypeKernel$Rewriter" 24 F_Rw 2 := Or.inl (HG.mem (k_in 94 (by decide +kernel) rfl))
theorem L_Rw_24K (HG : z_ok G) : z_cls G 4 R_Rw F_Rw 7 t_Rw := K_Rw HG
theorem L_Rw_28 (HG : z_ok G) : z_lnk G "TypeKernel$Rewriter" 28 F_Rw 3 := Or.inl (HG.mem (k_in 95 (by decide +kernel) rfl))
theorem L_Rw_28K (HG : z_ok G) : z_cls G 4 R_Rw F_Rw 7 t_Rw := K_Rw HG
theorem L_Rw_31 (HG : z_ok G) : z_lnk G "TypeKernel$Rewriter" 31 F_Rw 4 := Or.inl (HG.mem (k_in 96 (by decide +kernel) rfl))
theorem L_Rw_31K (HG : z_ok G) : z_cls G 4 R_Rw F_Rw 7 t_Rw := K_Rw HG
theorem Y_Rw_37 (HG : z_ok G) : z_Yi G "TypeKernel$Rewriter" 37 m_Wk_init := ⟨⟨cd_Wk_init HG, by decide +kernel, by decide, ⟨⟨by decide +kernel, by decide +kernel⟩, by decide +kernel⟩, Or.inr ⟨"TypeKernel", HG.mem (k_in 56 (by decide +kernel) rfl)⟩⟩, rfl, rfl, rfl, HG.mem (k_in 58 (by decide +kernel) rfl), HG.mem (k_in 57 (by decide +kernel) rfl)⟩
theorem L_Rw_38 (HG : z_ok G) : z_lnk G "TypeKernel$Rewriter" 38 F_Rw 5 := Or.inl (HG.mem (k_in 97 (by decide +kernel) rfl))
theorem L_Rw_38K (HG : z_ok G) : z_cls G 4 R_Rw F_Rw 7 t_Rw := K_Rw HG
theorem L_Rw_42 (HG : z_ok G) : z_lnk G "TypeKernel$Rewriter" 42 F_Rw 6 := Or.inl (HG.mem (k_in 98 (by decide +kernel) rfl))
theorem L_Rw_42K (HG : z_ok G) : z_cls G 4 R_Rw F_Rw 7 t_Rw := K_Rw HG
theorem Y_Rw_45 (HG : z_ok G) : z_Yi G "TypeKernel$Rewriter" 45 m_Ru_init := ⟨⟨cd_Ru_init HG, by decide +kernel, by decide, ⟨⟨by decide +kernel, by decide +kernel⟩, by decide +kernel⟩, Or.inr ⟨"TypeKernel", HG.mem (k_in 68 (by decide +kernel) rfl)⟩⟩, rfl, rfl, rfl, HG.mem (k_in 70 (by decide +kernel) rfl), HG.mem (k_in 69 (by decide +kernel) rfl)⟩
theorem L_Rw_46 (HG : z_ok G) : z_lnk G "TypeKernel$Rewriter" 46 F_Ru 0 := Or.inr ⟨"TypeKernel", HG.mem (k_in 75 (by decide +kernel) rfl)⟩
theorem L_Rw_46K (HG : z_ok G) : z_cls G 2 R_Ru F_Ru 3 t_Ru := K_Ru HG
theorem Y_Rw_49 (HG : z_ok G) : z_Yv G "TypeKernel$Rewriter" 49 m_Row_copy 1 := ⟨⟨cd_Row_copy HG, by decide +kernel, by decide, ⟨⟨by decide +kernel, by decide +kernel⟩, by decide +kernel⟩, Or.inl (HG.mem (k_in 429 (by decide +kernel) rfl))⟩, HG.mem (k_in 360 (by decide +kernel) rfl), HG.mem (k_in 361 (by decide +kernel) rfl)⟩
theorem L_Rw_53 (HG : z_ok G) : z_lnk G "TypeKernel$Rewriter" 53 F_Ru 1 := Or.inr ⟨"TypeKernel", HG.mem (k_in 78 (by decide +kernel) rfl)⟩
theorem L_Rw_53K (HG : z_ok G) : z_cls G 2 R_Ru F_Ru 3 t_Ru := K_Ru HG
theorem L_Rw_56 (HG : z_ok G) : z_lnk G "TypeKernel$Rewriter" 56 F_Ru 2 := Or.inr ⟨"TypeKernel", HG.mem (k_in 81 (by decide +kernel) rfl)⟩
theorem L_Rw_56K (HG : z_ok G) : z_cls G 2 R_Ru F_Ru 3 t_Ru := K_Ru HG
theorem Y_Rw_59 (HG : z_ok G) : z_Yv G "TypeKernel$Rewriter" 59 m_Rw_step 0 := ⟨⟨cd_Rw_step HG, by decide +kernel, by decide, ⟨⟨by decide +kernel, by decide +kernel⟩, by decide +kernel⟩, Or.inl (HG.mem (k_in 430 (by decide +kernel) rfl))⟩, HG.mem (k_in 432 (by decide +kernel) rfl), HG.mem (k_inp (q := (({ cls := "TypeKernel$Rewriter", name := "step", desc := "()Z" } : Jvm.MethodName), 7)) 10 (by decide +kernel))⟩
theorem L_Rw_66 (HG : z_ok G) : z_lnk G "TypeKernel$Rewriter" 66 F_Row 1 := Or.inr ⟨"TypeKernel", HG.mem (k_in 45 (by decide +kernel) rfl)⟩
theorem L_Rw_66K (HG : z_ok G) : z_cls G 0 R_Row F_Row 2 t_Row := K_Row HG
theorem Y_Rw_69 (HG : z_ok G) : z_Yv G "TypeKernel$Rewriter" 69 m_Row_at 1 := ⟨⟨cd_Row_at HG, by decide +kernel, by decide, ⟨⟨by decide +kernel, by decide +kernel⟩, by decide +kernel⟩, Or.inl (HG.mem (k_in 386 (by decide +kernel) rfl))⟩, HG.mem (k_in 201 (by decide +kernel) rfl), HG.mem (k_in 202 (by decide +kernel) rfl)⟩
theorem Y_Rw_73 (HG : z_ok G) : z_Yv G "TypeKernel$Rewriter" 73 m_Rw_doLambda 1 := ⟨⟨cd_Rw_doLambda HG, by decide +kernel, by decide, ⟨⟨by decide +kernel, by decide +kernel⟩, by decide +kernel⟩, Or.inl (HG.mem (k_in 434 (by decide +kernel) rfl))⟩, HG.mem (k_in 436 (by decide +kernel) rfl), HG.mem (k_inp (q := (({ cls := "TypeKernel$Rewriter", name := "doLambda", desc := "(I)V" } : Jvm.MethodName), 7)) 11 (by decide +kernel))⟩
theorem Y_Rw_77 (HG : z_ok G) : z_Yv G "TypeKernel$Rewriter" 77 m_Rw_firstMatch 1 := ⟨⟨cd_Rw_firstMatch HG, by decide +kernel, by decide, ⟨⟨by decide +kernel, by decide +kernel⟩, by decide +kernel⟩, Or.inl (HG.mem (k_in 460 (by decide +kernel) rfl))⟩, HG.mem (k_in 462 (by decide +kernel) rfl), HG.mem (k_inp (q := (({ cls := "TypeKernel$Rewriter", name := "firstMatch", desc := "(I)I" } : Jvm.MethodName), 7)) 13 (by decide +kernel))⟩
theorem Y_Rw_80 (HG : z_ok G) : z_Yv G "TypeKernel$Rewriter" 80 m_Rw_doRule 2 := ⟨⟨cd_Rw_doRule HG, by decide +kernel, by decide, ⟨⟨by decide +kernel, by decide +kernel⟩, by decide +kernel⟩, Or.inl (HG.mem (k_in 468 (by decide +kernel) rfl))⟩, HG.mem (k_in 470 (by decide +kernel) rfl), HG.mem (k_inp (q := (({ cls := "TypeKernel$Rewriter", name := "doRule", desc := "(LTypeKernel$Rule;I)V" } : Jvm.MethodName), 7)) 15 (by decide +kernel))⟩
theorem Y_Rw_84 (HG : z_ok G) : z_Yv G "TypeKernel$Rewriter" 84 m_Row_endOf 1 := ⟨⟨cd_Row_endOf HG, by decide +kernel, by decide, ⟨⟨by decide +kernel, by decide +kernel⟩, by decide +kernel⟩, Or.inl (HG.mem (k_in 438 (by decide +kernel) rfl))⟩, HG.mem (k_in 439 (by decide +kernel) rfl), HG.mem (k_in 440 (by decide +kernel) rfl)⟩
theorem Y_Rw_87 (HG : z_ok G) : z_Yv G "TypeKernel$Rewriter" 87 m_Row_clear 0 := ⟨⟨cd_Row_clear HG, by decide +kernel, by decide, ⟨⟨by decide +kernel, by decide +kernel⟩, by decide +kernel⟩, Or.inl (HG.mem (k_in 445 (by decide +kernel) rfl))⟩, HG.mem (k_in 314 (by decide +kernel) rfl), HG.mem (k_in 315 (by decide +kernel) rfl)⟩
theorem Y_Rw_90 (HG : z_ok G) : z_Yv G "TypeKernel$Rewriter" 90 m_Row_appendPart 3 := ⟨⟨cd_Row_appendPart HG, by decide +kernel, by decide, ⟨⟨by decide +kernel, by decide +kernel⟩, by decide +kernel⟩, Or.inl (HG.mem (k_in 446 (by decide +kernel) rfl))⟩, HG.mem (k_in 447 (by decide +kernel) rfl), HG.mem (k_in 448 (by decide +kernel) rfl)⟩
theorem Y_Rw_94 (HG : z_ok G) : z_Yv G "TypeKernel$Rewriter" 94 m_Rw_appendBodyWith 5 := ⟨⟨cd_Rw_appendBodyWith HG, by decide +kernel, by decide, ⟨⟨by decide +kernel, by decide +kernel⟩, by decide +kernel⟩, Or.inl (HG.mem (k_in 451 (by decide +kernel) rfl))⟩, HG.mem (k_in 452 (by decide +kernel) rfl), HG.mem (k_in 453 (by decide +kernel) rfl)⟩
theorem Y_Rw_98 (HG : z_ok G) : z_Yv G "TypeKernel$Rewriter" 98 m_Rw_takeNext 0 := ⟨⟨cd_Rw_takeNext HG, by decide +kernel, by decide, ⟨⟨by decide +kernel, by decide +kernel⟩, by decide +kernel⟩, Or.inl (HG.mem (k_in 456 (by decide +kernel) rfl))⟩, HG.mem (k_in 458 (by decide +kernel) rfl), HG.mem (k_inp (q := (({ cls := "TypeKernel$Rewriter", name := "takeNext", desc := "()V" } : Jvm.MethodName), 7)) 12 (by decide +kernel))⟩
theorem Y_Rw_101 (HG : z_ok G) : z_Yv G "TypeKernel$Rewriter" 101 m_Wk_begin 0 := ⟨⟨cd_Wk_begin HG, by decide +kernel, by decide, ⟨⟨by decide +kernel, by decide +kernel⟩, by decide +kernel⟩, Or.inl (HG.mem (k_in 378 (by decide +kernel) rfl))⟩, HG.mem (k_in 379 (by decide +kernel) rfl), HG.mem (k_in 380 (by decide +kernel) rfl)⟩
theorem Y_Rw_104 (HG : z_ok G) : z_Yv G "TypeKernel$Rewriter" 104 m_Wk_goesOn 0 := ⟨⟨cd_Wk_goesOn HG, by decide +kernel, by decide, ⟨⟨by decide +kernel, by decide +kernel⟩, by decide +kernel⟩, Or.inl (HG.mem (k_in 382 (by decide +kernel) rfl))⟩, HG.mem (k_in 383 (by decide +kernel) rfl), HG.mem (k_in 384 (by decide +kernel) rfl)⟩
theorem Y_Rw_107 (HG : z_ok G) : z_Yv G "TypeKernel$Rewriter" 107 m_Wk_depthOf 1 := ⟨⟨cd_Wk_depthOf HG, by decide +kernel, by decide, ⟨⟨by decide +kernel, by decide +kernel⟩, by decide +kernel⟩, Or.inl (HG.mem (k_in 387 (by decide +kernel) rfl))⟩, HG.mem (k_in 388 (by decide +kernel) rfl), HG.mem (k_in 389 (by decide +kernel) rfl)⟩
theorem Y_Rw_110 (HG : z_ok G) : z_Yv G "TypeKernel$Rewriter" 110 m_Rw_appendLifted 4 := ⟨⟨cd_Rw_appendLifted HG, by decide +kernel, by decide, ⟨⟨by decide +kernel, by decide +kernel⟩, by decide +kernel⟩, Or.inl (HG.mem (k_in 455 (by decide +kernel) rfl))⟩, HG.mem (k_in 375 (by decide +kernel) rfl), HG.mem (k_in 376 (by decide +kernel) rfl)⟩
theorem Y_Rw_114 (HG : z_ok G) : z_Yv G "TypeKernel$Rewriter" 114 m_Row_append 1 := ⟨⟨cd_Row_append HG, by decide +kernel, by decide, ⟨⟨by decide +kernel, by decide +kernel⟩, by decide +kernel⟩, Or.inl (HG.mem (k_in 391 (by decide +kernel) rfl))⟩, HG.mem (k_in 318 (by decide +kernel) rfl), HG.mem (k_in 319 (by decide +kernel) rfl)⟩
theorem Y_Rw_117 (HG : z_ok G) : z_Yv G "TypeKernel$Rewriter" 117 m_Rw_matches 2 := ⟨⟨cd_Rw_matches HG, by decide +kernel, by decide, ⟨⟨by decide +kernel, by decide +kernel⟩, by decide +kernel⟩, Or.inl (HG.mem (k_in 464 (by decide +kernel) rfl))⟩, HG.mem (k_in 466 (by decide +kernel) rfl), HG.mem (k_inp (q := (({ cls := "TypeKernel$Rewriter", name := "matches", desc := "(LTypeKernel$Rule;I)Z" } : Jvm.MethodName), 7)) 14 (by decide +kernel))⟩
theorem L_Row_9 (HG : z_ok G) : z_lnk G "TypeKernel$Row" 9 F_Row 0 := Or.inl (HG.mem (k_in 43 (by decide +kernel) rfl))
theorem L_Row_9K (HG : z_ok G) : z_cls G 0 R_Row F_Row 2 t_Row := K_Row HG
theorem L_Row_15 (HG : z_ok G) : z_lnk G "TypeKernel$Row" 15 F_Row 1 := Or.inl (HG.mem (k_in 44 (by decide +kernel) rfl))
theorem L_Row_15K (HG : z_ok G) : z_cls G 0 R_Row F_Row 2 t_Row := K_Row HG
theorem Y_Row_22 (HG : z_ok G) : z_Yv G "TypeKernel$Row" 22 m_Row_at 1 := ⟨⟨cd_Row_at HG, by decide +kernel, by decide, ⟨⟨by decide +kernel, by decide +kernel⟩, by decide +kernel⟩, Or.inl (HG.mem (k_in 450 (by decide +kernel) rfl))⟩, HG.mem (k_in 201 (by decide +kernel) rfl), HG.mem (k_in 202 (by decide +kernel) rfl)⟩
theorem Y_Row_26 (HG : z_ok G) : z_Yv G "TypeKernel$Row" 26 m_Row_append 1 := ⟨⟨cd_Row_append HG, by decide +kernel, by decide, ⟨⟨by decide +kernel, by decide +kernel⟩, by decide +kernel⟩, Or.inl (HG.mem (k_in 317 (by decide +kernel) rfl))⟩, HG.mem (k_in 318 (by decide +kernel) rfl), HG.mem (k_in 319 (by decide +kernel) rfl)⟩
theorem Y_Row_30 (HG : z_ok G) : z_Yv G "TypeKernel$Row" 30 m_Row_clear 0 := ⟨⟨cd_Row_clear HG, by decide +kernel, by decide, ⟨⟨by decide +kernel, by decide +kernel⟩, by decide +kernel⟩, Or.inl (HG.mem (k_in 313 (by decide +kernel) rfl))⟩, HG.mem (k_in 314 (by decide +kernel) rfl), HG.mem (k_in 315 (by decide +kernel) rfl)⟩
theorem Y_Row_39 (HG : z_ok G) : z_Yv G "TypeKernel$Row" 39 m_Row_become 1 := ⟨⟨cd_Row_become HG, by decide +kernel, by decide, ⟨⟨by decide +kernel, by decide +kernel⟩, by decide +kernel⟩, Or.inl (HG.mem (k_in 498 (by decide +kernel) rfl))⟩, HG.mem (k_in 310 (by decide +kernel) rfl), HG.mem (k_in 311 (by decide +kernel) rfl)⟩
theorem Y_Row_42 (HG : z_ok G) : z_Yv G "TypeKernel$Row" 42 m_Row_appendPart 3 := ⟨⟨cd_Row_appendPart HG, by decide +kernel, by decide, ⟨⟨by decide +kernel, by decide +kernel⟩, by decide +kernel⟩, Or.inl (HG.mem (k_in 499 (by decide +kernel) rfl))⟩, HG.mem (k_in 447 (by decide +kernel) rfl), HG.mem (k_in 448 (by decide +kernel) rfl)⟩
theorem Y_Row_46 (HG : z_ok G) : z_Ys G "TypeKernel$Row" 46 m_Row_hasParts 1 := ⟨⟨cd_Row_hasParts HG, by decide +kernel, by decide, ⟨⟨by decide +kernel, by decide +kernel⟩, by decide +kernel⟩, Or.inl (HG.mem (k_in 442 (by decide +kernel) rfl))⟩, HG.mem (k_in 443 (by decide +kernel) rfl), HG.mem (k_in 3 (by decide +kernel) rfl)⟩
theorem Y_Row_50 (HG : z_ok G) : z_Yv G "TypeKernel$Row" 50 m_Row_isPart 3 := ⟨⟨cd_Row_isPart HG, by decide +kernel, by decide, ⟨⟨by decide +kernel, by decide +kernel⟩, by decide +kernel⟩, Or.inl (HG.mem (k_in 570 (by decide +kernel) rfl))⟩, HG.mem (k_in 491 (by decide +kernel) rfl), HG.mem (k_in 492 (by decide +kernel) rfl)⟩
theorem Y_Ru_9 (HG : z_ok G) : z_Yi G "TypeKernel$Rule" 9 m_Row_init := ⟨⟨cd_Row_init HG, by decide +kernel, by decide, ⟨⟨by decide +kernel, by decide +kernel⟩, by decide +kernel⟩, Or.inr ⟨"TypeKernel", HG.mem (k_in 73 (by decide +kernel) rfl)⟩⟩, rfl, rfl, rfl, HG.mem (k_in 41 (by decide +kernel) rfl), HG.mem (k_in 40 (by decide +kernel) rfl)⟩
theorem L_Ru_10 (HG : z_ok G) : z_lnk G "TypeKernel$Rule" 10 F_Ru 0 := Or.inl (HG.mem (k_in 74 (by decide +kernel) rfl))
theorem L_Ru_10K (HG : z_ok G) : z_cls G 2 R_Ru F_Ru 3 t_Ru := K_Ru HG
theorem L_Ru_16 (HG : z_ok G) : z_lnk G "TypeKernel$Rule" 16 F_Ru 1 := Or.inl (HG.mem (k_in 77 (by decide +kernel) rfl))
theorem L_Ru_16K (HG : z_ok G) : z_cls G 2 R_Ru F_Ru 3 t_Ru := K_Ru HG
theorem L_Ru_19 (HG : z_ok G) : z_lnk G "TypeKernel$Rule" 19 F_Ru 2 := Or.inl (HG.mem (k_in 80 (by decide +kernel) rfl))
theorem L_Ru_19K (HG : z_ok G) : z_cls G 2 R_Ru F_Ru 3 t_Ru := K_Ru HG
theorem L_Wk_9 (HG : z_ok G) : z_lnk G "TypeKernel$Walk" 9 F_Wk 0 := Or.inl (HG.mem (k_in 60 (by decide +kernel) rfl))
theorem L_Wk_9K (HG : z_ok G) : z_cls G 3 R_Wk F_Wk 2 t_Wk := K_Wk HG
theorem L_Wk_15 (HG : z_ok G) : z_lnk G "TypeKernel$Walk" 15 F_Wk 1 := Or.inl (HG.mem (k_in 61 (by decide +kernel) rfl))
theorem L_Wk_15K (HG : z_ok G) : z_cls G 3 R_Wk F_Wk 2 t_Wk := K_Wk HG
theorem Y_Lw_7 (HG : z_ok G) : z_Yv G "TypeKernelLaw" 7 m_TK_sort 0 := ⟨⟨cd_TK_sort HG, by decide +kernel, by decide, ⟨⟨by decide +kernel, by decide +kernel⟩, by decide +kernel⟩, Or.inl (HG.mem (k_in 236 (by decide +kernel) rfl))⟩, HG.mem (k_in 237 (by decide +kernel) rfl), HG.mem (k_in 238 (by decide +kernel) rfl)⟩
theorem Y_Lw_14 (HG : z_ok G) : z_Yv G "TypeKernelLaw" 14 m_TK_constant 1 := ⟨⟨cd_TK_constant HG, by decide +kernel, by decide, ⟨⟨by decide +kernel, by decide +kernel⟩, by decide +kernel⟩, Or.inl (HG.mem (k_in 340 (by decide +kernel) rfl))⟩, HG.mem (k_in 341 (by decide +kernel) rfl), HG.mem (k_in 342 (by decide +kernel) rfl)⟩
theorem Y_Lw_20 (HG : z_ok G) : z_Yv G "TypeKernelLaw" 20 m_TK_variable 1 := ⟨⟨cd_TK_variable HG, by decide +kernel, by decide, ⟨⟨by decide +kernel, by decide +kernel⟩, by decide +kernel⟩, Or.inl (HG.mem (k_in 369 (by decide +kernel) rfl))⟩, HG.mem (k_in 370 (by decide +kernel) rfl), HG.mem (k_in 371 (by decide +kernel) rfl)⟩
theorem Y_Lw_23 (HG : z_ok G) : z_Yv G "TypeKernelLaw" 23 m_TK_apply 0 := ⟨⟨cd_TK_apply HG, by decide +kernel, by decide, ⟨⟨by decide +kernel, by decide +kernel⟩, by decide +kernel⟩, Or.inl (HG.mem (k_in 398 (by decide +kernel) rfl))⟩, HG.mem (k_in 399 (by decide +kernel) rfl), HG.mem (k_in 400 (by decide +kernel) rfl)⟩
theorem Y_Lw_32 (HG : z_ok G) : z_Yv G "TypeKernelLaw" 32 m_TK_assume 0 := ⟨⟨cd_TK_assume HG, by decide +kernel, by decide, ⟨⟨by decide +kernel, by decide +kernel⟩, by decide +kernel⟩, Or.inl (HG.mem (k_in 504 (by decide +kernel) rfl))⟩, HG.mem (k_in 505 (by decide +kernel) rfl), HG.mem (k_in 506 (by decide +kernel) rfl)⟩
theorem Y_Lw_35 (HG : z_ok G) : z_Yv G "TypeKernelLaw" 35 m_TK_lambda 0 := ⟨⟨cd_TK_lambda HG, by decide +kernel, by decide, ⟨⟨by decide +kernel, by decide +kernel⟩, by decide +kernel⟩, Or.inl (HG.mem (k_in 515 (by decide +kernel) rfl))⟩, HG.mem (k_in 516 (by decide +kernel) rfl), HG.mem (k_in 517 (by decide +kernel) rfl)⟩
theorem Y_Lw_38 (HG : z_ok G) : z_Yv G "TypeKernelLaw" 38 m_TK_product 0 := ⟨⟨cd_TK_product HG, by decide +kernel, by decide, ⟨⟨by decide +kernel, by decide +kernel⟩, by decide +kernel⟩, Or.inl (HG.mem (k_in 530 (by decide +kernel) rfl))⟩, HG.mem (k_in 531 (by decide +kernel) rfl), HG.mem (k_in 532 (by decide +kernel) rfl)⟩
theorem Y_Lw_41 (HG : z_ok G) : z_Yv G "TypeKernelLaw" 41 m_TK_declare 1 := ⟨⟨cd_TK_declare HG, by decide +kernel, by decide, ⟨⟨by decide +kernel, by decide +kernel⟩, by decide +kernel⟩, Or.inl (HG.mem (k_in 540 (by decide +kernel) rfl))⟩, HG.mem (k_in 541 (by decide +kernel) rfl), HG.mem (k_in 542 (by decide +kernel) rfl)⟩
theorem Y_Lw_45 (HG : z_ok G) : z_Yv G "TypeKernelLaw" 45 m_TK_rule 0 := ⟨⟨cd_TK_rule HG, by decide +kernel, by decide, ⟨⟨by decide +kernel, by decide +kernel⟩, by decide +kernel⟩, Or.inl (HG.mem (k_in 547 (by decide +kernel) rfl))⟩, HG.mem (k_in 548 (by decide +kernel) rfl), HG.mem (k_in 549 (by decide +kernel) rfl)⟩
theorem Y_Lw_49 (HG : z_ok G) : z_Yv G "TypeKernelLaw" 49 m_TK_normal 0 := ⟨⟨cd_TK_normal HG, by decide +kernel, by decide, ⟨⟨by decide +kernel, by decide +kernel⟩, by decide +kernel⟩, Or.inl (HG.mem (k_in 578 (by decide +kernel) rfl))⟩, HG.mem (k_in 579 (by decide +kernel) rfl), HG.mem (k_in 580 (by decide +kernel) rfl)⟩
theorem Y_Lw_52 (HG : z_ok G) : z_Yv G "TypeKernelLaw" 52 m_TK_same 0 := ⟨⟨cd_TK_same HG, by decide +kernel, by decide, ⟨⟨by decide +kernel, by decide +kernel⟩, by decide +kernel⟩, Or.inl (HG.mem (k_in 585 (by decide +kernel) rfl))⟩, HG.mem (k_in 586 (by decide +kernel) rfl), HG.mem (k_in 587 (by decide +kernel) rfl)⟩
theorem Y_Lw_56 (HG : z_ok G) : z_Yi G "TypeKernelLaw" 56 m_TK_init := ⟨⟨cd_TK_init HG, by decide +kernel, by decide, ⟨⟨by decide +kernel, by decide +kernel⟩, by decide +kernel⟩, Or.inl (HG.mem (k_in 19 (by decide +kernel) rfl))⟩, rfl, rfl, rfl, HG.mem (k_in 21 (by decide +kernel) rfl), HG.mem (k_in 20 (by decide +kernel) rfl)⟩
theorem Y_Lw_59 (HG : z_ok G) : z_Yi G "TypeKernelLaw" 59 m_Md_init := ⟨⟨cd_Md_init HG, by decide +kernel, by decide, ⟨⟨by decide +kernel, by decide +kernel⟩, by decide +kernel⟩, Or.inl (HG.mem (k_in 591 (by decide +kernel) rfl))⟩, rfl, rfl, rfl, HG.mem (k_in 593 (by decide +kernel) rfl), HG.mem (k_in 592 (by decide +kernel) rfl)⟩
theorem Y_Lw_60 (HG : z_ok G) : z_Ys G "TypeKernelLaw" 60 m_Lw_sort 1 := ⟨⟨cd_Lw_sort HG, by decide +kernel, by decide, ⟨⟨by decide +kernel, by decide +kernel⟩, by decide +kernel⟩, Or.inl (HG.mem (k_in 232 (by decide +kernel) rfl))⟩, HG.mem (k_in 233 (by decide +kernel) rfl), HG.mem (k_in 0 (by decide +kernel) rfl)⟩
theorem Y_Lw_65 (HG : z_ok G) : z_Yv G "TypeKernelLaw" 65 m_Md_sort 0 := ⟨⟨cd_Md_sort HG, by decide +kernel, by decide, ⟨⟨by decide +kernel, by decide +kernel⟩, by decide +kernel⟩, Or.inl (HG.mem (k_in 648 (by decide +kernel) rfl))⟩, HG.mem (k_in 649 (by decide +kernel) rfl), HG.mem (k_in 650 (by decide +kernel) rfl)⟩
theorem Y_Lw_66 (HG : z_ok G) : z_Yv G "TypeKernelLaw" 66 m_Md_thrown 0 := ⟨⟨cd_Md_thrown HG, by decide +kernel, by decide, ⟨⟨by decide +kernel, by decide +kernel⟩, by decide +kernel⟩, Or.inl (HG.mem (k_in 644 (by decide +kernel) rfl))⟩, HG.mem (k_in 645 (by decide +kernel) rfl), HG.mem (k_in 646 (by decide +kernel) rfl)⟩
theorem Y_Lw_69 (HG : z_ok G) : z_Ys G "TypeKernelLaw" 69 m_Lw_constant 2 := ⟨⟨cd_Lw_constant HG, by decide +kernel, by decide, ⟨⟨by decide +kernel, by decide +kernel⟩, by decide +kernel⟩, Or.inl (HG.mem (k_in 336 (by decide +kernel) rfl))⟩, HG.mem (k_in 337 (by decide +kernel) rfl), HG.mem (k_in 0 (by decide +kernel) rfl)⟩
theorem Y_Lw_72 (HG : z_ok G) : z_Yv G "TypeKernelLaw" 72 m_Md_constant 1 := ⟨⟨cd_Md_constant HG, by decide +kernel, by decide, ⟨⟨by decide +kernel, by decide +kernel⟩, by decide +kernel⟩, Or.inl (HG.mem (k_in 660 (by decide +kernel) rfl))⟩, HG.mem (k_in 661 (by decide +kernel) rfl), HG.mem (k_in 662 (by decide +kernel) rfl)⟩
theorem Y_Lw_73 (HG : z_ok G) : z_Ys G "TypeKernelLaw" 73 m_Lw_variable 2 := ⟨⟨cd_Lw_variable HG, by decide +kernel, by decide, ⟨⟨by decide +kernel, by decide +kernel⟩, by decide +kernel⟩, Or.inl (HG.mem (k_in 366 (by decide +kernel) rfl))⟩, HG.mem (k_in 367 (by decide +kernel) rfl), HG.mem (k_in 0 (by decide +kernel) rfl)⟩
theorem Y_Lw_75 (HG : z_ok G) : z_Yv G "TypeKernelLaw" 75 m_Md_variable 1 := ⟨⟨cd_Md_variable HG, by decide +kernel, by decide, ⟨⟨by decide +kernel, by decide +kernel⟩, by decide +kernel⟩, Or.inl (HG.mem (k_in 672 (by decide +kernel) rfl))⟩, HG.mem (k_in 673 (by decide +kernel) rfl), HG.mem (k_in 674 (by decide +kernel) rfl)⟩
theorem Y_Lw_76 (HG : z_ok G) : z_Ys G "TypeKernelLaw" 76 m_Lw_apply 1 := ⟨⟨cd_Lw_apply HG, by decide +kernel, by decide, ⟨⟨by decide +kernel, by decide +kernel⟩, by decide +kernel⟩, Or.inl (HG.mem (k_in 392 (by decide +kernel) rfl))⟩, HG.mem (k_in 393 (by decide +kernel) rfl), HG.mem (k_in 0 (by decide +kernel) rfl)⟩
theorem Y_Lw_78 (HG : z_ok G) : z_Yv G "TypeKernelLaw" 78 m_Md_apply 0 := ⟨⟨cd_Md_apply HG, by decide +kernel, by decide, ⟨⟨by decide +kernel, by decide +kernel⟩, by decide +kernel⟩, Or.inl (HG.mem (k_in 687 (by decide +kernel) rfl))⟩, HG.mem (k_in 688 (by decide +kernel) rfl), HG.mem (k_in 689 (by decide +kernel) rfl)⟩
theorem Y_Lw_79 (HG : z_ok G) : z_Ys G "TypeKernelLaw" 79 m_Lw_assume 1 := ⟨⟨cd_Lw_assume HG, by decide +kernel, by decide, ⟨⟨by decide +kernel, by decide +kernel⟩, by decide +kernel⟩, Or.inl (HG.mem (k_in 501 (by decide +kernel) rfl))⟩, HG.mem (k_in 502 (by decide +kernel) rfl), HG.mem (k_in 0 (by decide +kernel) rfl)⟩
theorem Y_Lw_81 (HG : z_ok G) : z_Yv G "TypeKernelLaw" 81 m_Md_assume 0 := ⟨⟨cd_Md_assume HG, by decide +kernel, by decide, ⟨⟨by decide +kernel, by decide +kernel⟩, by decide +kernel⟩, Or.inl (HG.mem (k_in 739 (by decide +kernel) rfl))⟩, HG.mem (k_in 740 (by decide +kernel) rfl), HG.mem (k_in 741 (by decide +kernel) rfl)⟩
theorem Y_Lw_82 (HG : z_ok G) : z_Ys G "TypeKernelLaw" 82 m_Lw_lambda 1 := ⟨⟨cd_Lw_lambda HG, by decide +kernel, by decide, ⟨⟨by decide +kernel, by decide +kernel⟩, by decide +kernel⟩, Or.inl (HG.mem (k_in 512 (by decide +kernel) rfl))⟩, HG.mem (k_in 513 (by decide +kernel) rfl), HG.mem (k_in 0 (by decide +kernel) rfl)⟩
theorem Y_Lw_84 (HG : z_ok G) : z_Yv G "TypeKernelLaw" 84 m_Md_lambda 0 := ⟨⟨cd_Md_lambda HG, by decide +kernel, by decide, ⟨⟨by decide +kernel, by decide +kernel⟩, by decide +kernel⟩, Or.inl (HG.mem (k_in 747 (by decide +kernel) rfl))⟩, HG.mem (k_in 748 (by decide +kernel) rfl), HG.mem (k_in 749 (by decide +kernel) rfl)⟩
theorem Y_Lw_85 (HG : z_ok G) : z_Ys G "TypeKernelLaw" 85 m_Lw_product 1 := ⟨⟨cd_Lw_product HG, by decide +kernel, by decide, ⟨⟨by decide +kernel, by decide +kernel⟩, by decide +kernel⟩, Or.inl (HG.mem (k_in 527 (by decide +kernel) rfl))⟩, HG.mem (k_in 528 (by decide +kernel) rfl), HG.mem (k_in 0 (by decide +kernel) rfl)⟩
theorem Y_Lw_87 (HG : z_ok G) : z_Yv G "TypeKernelLaw" 87 m_Md_product 0 := ⟨⟨cd_Md_product HG, by decide +kernel, by decide, ⟨⟨by decide +kernel, by decide +kernel⟩, by decide +kernel⟩, Or.inl (HG.mem (k_in 767 (by decide +kernel) rfl))⟩, HG.mem (k_in 768 (by decide +kernel) rfl), HG.mem (k_in 769 (by decide +kernel) rfl)⟩
theorem Y_Lw_88 (HG : z_ok G) : z_Ys G "TypeKernelLaw" 88 m_Lw_declare 3 := ⟨⟨cd_Lw_declare HG, by decide +kernel, by decide, ⟨⟨by decide +kernel, by decide +kernel⟩, by decide +kernel⟩, Or.inl (HG.mem (k_in 537 (by decide +kernel) rfl))⟩, HG.mem (k_in 538 (by decide +kernel) rfl), HG.mem (k_in 0 (by decide +kernel) rfl)⟩
theorem Y_Lw_91 (HG : z_ok G) : z_Yv G "TypeKernelLaw" 91 m_Md_declare 1 := ⟨⟨cd_Md_declare HG, by decide +kernel, by decide, ⟨⟨by decide +kernel, by decide +kernel⟩, by decide +kernel⟩, Or.inl (HG.mem (k_in 771 (by decide +kernel) rfl))⟩, HG.mem (k_in 772 (by decide +kernel) rfl), HG.mem (k_in 773 (by decide +kernel) rfl)⟩
theorem Y_Lw_92 (HG : z_ok G) : z_Ys G "TypeKernelLaw" 92 m_Lw_rule 2 := ⟨⟨cd_Lw_rule HG, by decide +kernel, by decide, ⟨⟨by decide +kernel, by decide +kernel⟩, by decide +kernel⟩, Or.inl (HG.mem (k_in 544 (by decide +kernel) rfl))⟩, HG.mem (k_in 545 (by decide +kernel) rfl), HG.mem (k_in 0 (by decide +kernel) rfl)⟩
theorem Y_Lw_95 (HG : z_ok G) : z_Yv G "TypeKernelLaw" 95 m_Md_rule 0 := ⟨⟨cd_Md_rule HG, by decide +kernel, by decide, ⟨⟨by decide +kernel, by decide +kernel⟩, by decide +kernel⟩, Or.inl (HG.mem (k_in 775 (by decide +kernel) rfl))⟩, HG.mem (k_in 776 (by decide +kernel) rfl), HG.mem (k_in 777 (by decide +kernel) rfl)⟩
theorem Y_Lw_96 (HG : z_ok G) : z_Ys G "TypeKernelLaw" 96 m_Lw_normal 2 := ⟨⟨cd_Lw_normal HG, by decide +kernel, by decide, ⟨⟨by decide +kernel, by decide +kernel⟩, by decide +kernel⟩, Or.inl (HG.mem (k_in 575 (by decide +kernel) rfl))⟩, HG.mem (k_in 576 (by decide +kernel) rfl), HG.mem (k_in 0 (by decide +kernel) rfl)⟩
theorem Y_Lw_98 (HG : z_ok G) : z_Yv G "TypeKernelLaw" 98 m_Md_normal 0 := ⟨⟨cd_Md_normal HG, by decide +kernel, by decide, ⟨⟨by decide +kernel, by decide +kernel⟩, by decide +kernel⟩, Or.inl (HG.mem (k_in 791 (by decide +kernel) rfl))⟩, HG.mem (k_in 792 (by decide +kernel) rfl), HG.mem (k_in 793 (by decide +kernel) rfl)⟩
theorem Y_Lw_99 (HG : z_ok G) : z_Ys G "TypeKernelLaw" 99 m_Lw_same 2 := ⟨⟨cd_Lw_same HG, by decide +kernel, by decide, ⟨⟨by decide +kernel, by decide +kernel⟩, by decide +kernel⟩, Or.inl (HG.mem (k_in 582 (by decide +kernel) rfl))⟩, HG.mem (k_in 583 (by decide +kernel) rfl), HG.mem (k_in 0 (by decide +kernel) rfl)⟩
theorem Y_Lw_101 (HG : z_ok G) : z_Yv G "TypeKernelLaw" 101 m_Md_same 0 := ⟨⟨cd_Md_same HG, by decide +kernel, by decide, ⟨⟨by decide +kernel, by decide +kernel⟩, by decide +kernel⟩, Or.inl (HG.mem (k_in 799 (by decide +kernel) rfl))⟩, HG.mem (k_in 800 (by decide +kernel) rfl), HG.mem (k_in 801 (by decide +kernel) rfl)⟩
theorem Y_Lw_102 (HG : z_ok G) : z_Yv G "TypeKernelLaw" 102 m_TK_drop 0 := ⟨⟨cd_TK_drop HG, by decide +kernel, by decide, ⟨⟨by decide +kernel, by decide +kernel⟩, by decide +kernel⟩, Or.inl (HG.mem (k_in 172 (by decide +kernel) rfl))⟩, HG.mem (k_in 173 (by decide +kernel) rfl), HG.mem (k_in 174 (by decide +kernel) rfl)⟩
theorem Y_Lw_105 (HG : z_ok G) : z_Yv G "TypeKernelLaw" 105 m_Md_drop 0 := ⟨⟨cd_Md_drop HG, by decide +kernel, by decide, ⟨⟨by decide +kernel, by decide +kernel⟩, by decide +kernel⟩, Or.inl (HG.mem (k_in 803 (by decide +kernel) rfl))⟩, HG.mem (k_in 804 (by decide +kernel) rfl), HG.mem (k_in 805 (by decide +kernel) rfl)⟩
theorem Y_Lw_106 (HG : z_ok G) : z_Yv G "TypeKernelLaw" 106 m_TK_leave 0 := ⟨⟨cd_TK_leave HG, by decide +kernel, by decide, ⟨⟨by decide +kernel, by decide +kernel⟩, by decide +kernel⟩, Or.inl (HG.mem (k_in 176 (by decide +kernel) rfl))⟩, HG.mem (k_in 177 (by decide +kernel) rfl), HG.mem (k_in 178 (by decide +kernel) rfl)⟩
theorem Y_Lw_109 (HG : z_ok G) : z_Yv G "TypeKernelLaw" 109 m_Md_leave 0 := ⟨⟨cd_Md_leave HG, by decide +kernel, by decide, ⟨⟨by decide +kernel, by decide +kernel⟩, by decide +kernel⟩, Or.inl (HG.mem (k_in 807 (by decide +kernel) rfl))⟩, HG.mem (k_in 808 (by decide +kernel) rfl), HG.mem (k_in 809 (by decide +kernel) rfl)⟩
theorem Y_Lw_110 (HG : z_ok G) : z_Yv G "TypeKernelLaw" 110 m_TK_counts 0 := ⟨⟨cd_TK_counts HG, by decide +kernel, by decide, ⟨⟨by decide +kernel, by decide +kernel⟩, by decide +kernel⟩, Or.inl (HG.mem (k_in 184 (by decide +kernel) rfl))⟩, HG.mem (k_in 185 (by decide +kernel) rfl), HG.mem (k_in 186 (by decide +kernel) rfl)⟩
theorem Y_Lw_113 (HG : z_ok G) : z_Yv G "TypeKernelLaw" 113 m_Md_counts 0 := ⟨⟨cd_Md_counts HG, by decide +kernel, by decide, ⟨⟨by decide +kernel, by decide +kernel⟩, by decide +kernel⟩, Or.inl (HG.mem (k_in 811 (by decide +kernel) rfl))⟩, HG.mem (k_in 812 (by decide +kernel) rfl), HG.mem (k_in 813 (by decide +kernel) rfl)⟩
theorem Y_Lw_114 (HG : z_ok G) : z_Yv G "TypeKernelLaw" 114 m_TK_judgement 3 := ⟨⟨cd_TK_judgement HG, by decide +kernel, by decide, ⟨⟨by decide +kernel, by decide +kernel⟩, by decide +kernel⟩, Or.inl (HG.mem (k_in 188 (by decide +kernel) rfl))⟩, HG.mem (k_in 189 (by decide +kernel) rfl), HG.mem (k_in 190 (by decide +kernel) rfl)⟩
theorem Y_Lw_118 (HG : z_ok G) : z_Yv G "TypeKernelLaw" 118 m_Md_judgement 3 := ⟨⟨cd_Md_judgement HG, by decide +kernel, by decide, ⟨⟨by decide +kernel, by decide +kernel⟩, by decide +kernel⟩, Or.inl (HG.mem (k_in 815 (by decide +kernel) rfl))⟩, HG.mem (k_in 816 (by decide +kernel) rfl), HG.mem (k_in 817 (by decide +kernel) rfl)⟩
theorem Y_Lw_119 (HG : z_ok G) : z_Yv G "TypeKernelLaw" 119 m_TK_made 1 := ⟨⟨cd_TK_made HG, by decide +kernel, by decide, ⟨⟨by decide +kernel, by decide +kernel⟩, by decide +kernel⟩, Or.inl (HG.mem (k_in 204 (by decide +kernel) rfl))⟩, HG.mem (k_in 205 (by decide +kernel) rfl), HG.mem (k_in 206 (by decide +kernel) rfl)⟩
theorem Y_Lw_123 (HG : z_ok G) : z_Yv G "TypeKernelLaw" 123 m_Md_made 1 := ⟨⟨cd_Md_made HG, by decide +kernel, by decide, ⟨⟨by decide +kernel, by decide +kernel⟩, by decide +kernel⟩, Or.inl (HG.mem (k_in 823 (by decide +kernel) rfl))⟩, HG.mem (k_in 824 (by decide +kernel) rfl), HG.mem (k_in 825 (by decide +kernel) rfl)⟩
theorem Y_Lw_124 (HG : z_ok G) : z_Yv G "TypeKernelLaw" 124 m_TK_entry 2 := ⟨⟨cd_TK_entry HG, by decide +kernel, by decide, ⟨⟨by decide +kernel, by decide +kernel⟩, by decide +kernel⟩, Or.inl (HG.mem (k_in 208 (by decide +kernel) rfl))⟩, HG.mem (k_in 209 (by decide +kernel) rfl), HG.mem (k_in 210 (by decide +kernel) rfl)⟩
theorem Y_Lw_128 (HG : z_ok G) : z_Yv G "TypeKernelLaw" 128 m_Md_entry 2 := ⟨⟨cd_Md_entry HG, by decide +kernel, by decide, ⟨⟨by decide +kernel, by decide +kernel⟩, by decide +kernel⟩, Or.inl (HG.mem (k_in 827 (by decide +kernel) rfl))⟩, HG.mem (k_in 828 (by decide +kernel) rfl), HG.mem (k_in 829 (by decide +kernel) rfl)⟩
theorem Y_Lw_129 (HG : z_ok G) : z_Yv G "TypeKernelLaw" 129 m_TK_type 2 := ⟨⟨cd_TK_type HG, by decide +kernel, by decide, ⟨⟨by decide +kernel, by decide +kernel⟩, by decide +kernel⟩, Or.inl (HG.mem (k_in 220 (by decide +kernel) rfl))⟩, HG.mem (k_in 221 (by decide +kernel) rfl), HG.mem (k_in 222 (by decide +kernel) rfl)⟩
theorem Y_Lw_132 (HG : z_ok G) : z_Yv G "TypeKernelLaw" 132 m_Md_type 2 := ⟨⟨cd_Md_type HG, by decide +kernel, by decide, ⟨⟨by decide +kernel, by decide +kernel⟩, by decide +kernel⟩, Or.inl (HG.mem (k_in 831 (by decide +kernel) rfl))⟩, HG.mem (k_in 832 (by decide +kernel) rfl), HG.mem (k_in 833 (by decide +kernel) rfl)⟩
theorem Y_Lw_133 (HG : z_ok G) : z_Yv G "TypeKernelLaw" 133 m_TK_side 3 := ⟨⟨cd_TK_side HG, by decide +kernel, by decide, ⟨⟨by decide +kernel, by decide +kernel⟩, by decide +kernel⟩, Or.inl (HG.mem (k_in 228 (by decide +kernel) rfl))⟩, HG.mem (k_in 229 (by decide +kernel) rfl), HG.mem (k_in 230 (by decide +kernel) rfl)⟩
theorem Y_Lw_136 (HG : z_ok G) : z_Yv G "TypeKernelLaw" 136 m_Md_side 3 := ⟨⟨cd_Md_side HG, by decide +kernel, by decide, ⟨⟨by decide +kernel, by decide +kernel⟩, by decide +kernel⟩, Or.inl (HG.mem (k_in 835 (by decide +kernel) rfl))⟩, HG.mem (k_in 836 (by decide +kernel) rfl), HG.mem (k_in 837 (by decide +kernel) rfl)⟩
theorem t_TK_78 (HG : z_ok G) : ∀ w ∈ z_thr "TypeKernel" 78 80 "java/lang/IndexOutOfBoundsException", w ∈ G.Ts := fun w h => HG.mem (of_decide_eq_true (List.all_eq_true.mp (by decide +kernel : (z_thr "TypeKernel" 78 80 "java/lang/IndexOutOfBoundsException").all (fun w => decide (w ∈ k_ws)) = true) w h))
theorem t_TK_111 (HG : z_ok G) : ∀ w ∈ z_thr "TypeKernel" 111 113 "java/lang/IllegalArgumentException", w ∈ G.Ts := fun w h => HG.mem (of_decide_eq_true (List.all_eq_true.mp (by decide +kernel : (z_thr "TypeKernel" 111 113 "java/lang/IllegalArgumentException").all (fun w => decide (w ∈ k_ws)) = true) w h))
theorem t_TK_129 (HG : z_ok G) : ∀ w ∈ z_thr "TypeKernel" 129 131 "java/lang/UnsupportedOperationException", w ∈ G.Ts := fun w h => HG.mem (of_decide_eq_true (List.all_eq_true.mp (by decide +kernel : (z_thr "TypeKernel" 129 131 "java/lang/UnsupportedOperationException").all (fun w => decide (w ∈ k_ws)) = true) w h))
theorem t_TK_146 (HG : z_ok G) : ∀ w ∈ z_thr "TypeKernel" 146 148 "java/lang/IllegalStateException", w ∈ G.Ts := fun w h => HG.mem (of_decide_eq_true (List.all_eq_true.mp (by decide +kernel : (z_thr "TypeKernel" 146 148 "java/lang/IllegalStateException").all (fun w => decide (w ∈ k_ws)) = true) w h))
theorem t_Rw_63 (HG : z_ok G) : ∀ w ∈ z_thr "TypeKernel$Rewriter" 63 65 "java/lang/ArithmeticException", w ∈ G.Ts := fun w h => HG.mem (of_decide_eq_true (List.all_eq_true.mp (by decide +kernel : (z_thr "TypeKernel$Rewriter" 63 65 "java/lang/ArithmeticException").all (fun w => decide (w ∈ k_ws)) = true) w h))
theorem t_Row_19 (HG : z_ok G) : ∀ w ∈ z_thr "TypeKernel$Row" 19 21 "java/lang/ArithmeticException", w ∈ G.Ts := fun w h => HG.mem (of_decide_eq_true (List.all_eq_true.mp (by decide +kernel : (z_thr "TypeKernel$Row" 19 21 "java/lang/ArithmeticException").all (fun w => decide (w ∈ k_ws)) = true) w h))
end ZN
