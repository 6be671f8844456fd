/-! names and words, by wip/whole/gen/names.py: pool numbers, code names and program counters stand here and in 02d alone -/
def wl_ALL : List Cond := lw_tbl.filter goodWord
theorem wl_good : ∀ w ∈ wl_ALL, (w.onTables && w.keeps) = true ∨ ∃ ty, w = .arrayClass ty := fun w h => good_of_word (List.mem_filter.mp h).2
theorem wl_mem {c : Cond} (n : Nat) (h : lw_tbl[n]? = some c) (hg : goodWord c = true) : c ∈ wl_ALL := List.mem_filter.mpr ⟨List.mem_of_getElem? h, hg⟩
def rn_LR : String := "LineRules"
def ft_LR : u_T := fun k => match k with
  | 0 => ("LineRules", "pad", "LLineRules$Row;", true)
  | 1 => ("LineRules", "texts", "[LLineRules$Row;", true)
  | 2 => ("LineRules", "expressions", "[LLineRules$Expression;", true)
  | 3 => ("LineRules", "reader", "LLineRules$Reader;", true)
  | 4 => ("LineRules", "rules", "[LLineRules$Rule;", true)
  | 5 => ("LineRules", "latest", "LLineRules$CutLine;", true)
  | 6 => ("LineRules", "counters", "[I", true)
  | 7 => ("LineRules", "table", "LLineRules$Table;", true)
  | 8 => ("LineRules", "output", "LLineRules$Output;", true)
  | 9 => ("LineRules", "numberText", "LLineRules$Row;", true)
  | 10 => ("LineRules", "ruleCount", "I", false)
  | 11 => ("LineRules", "lineCount", "I", false)
  | 12 => ("LineRules", "fieldSeparator", "I", false)
  | _ => ("LineRules", "foundEnd", "I", false)
def fy_LR : Nat → FieldType := fun k => match k with
  | 0 => .object "LineRules$Row"
  | 1 => .array (.object "LineRules$Row")
  | 2 => .array (.object "LineRules$Expression")
  | 3 => .object "LineRules$Reader"
  | 4 => .array (.object "LineRules$Rule")
  | 5 => .object "LineRules$CutLine"
  | 6 => .array .int
  | 7 => .object "LineRules$Table"
  | 8 => .object "LineRules$Output"
  | 9 => .object "LineRules$Row"
  | 10 => .int
  | 11 => .int
  | 12 => .int
  | _ => .int
def rn_Cut : String := "LineRules$CutLine"
def ft_Cut : u_T := fun k => match k with
  | 0 => ("LineRules$CutLine", "whole", "LLineRules$Row;", true)
  | 1 => ("LineRules$CutLine", "fieldCount", "I", false)
  | 2 => ("LineRules$CutLine", "fields", "[LLineRules$Row;", true)
  | 3 => ("LineRules$CutLine", "absent", "LLineRules$Row;", true)
  | _ => ("LineRules$CutLine", "changed", "LLineRules$Row;", true)
def fy_Cut : Nat → FieldType := fun k => match k with
  | 0 => .object "LineRules$Row"
  | 1 => .int
  | 2 => .array (.object "LineRules$Row")
  | 3 => .object "LineRules$Row"
  | _ => .object "LineRules$Row"
def rn_Exp : String := "LineRules$Expression"
def ft_Exp : u_T := fun k => match k with
  | 0 => ("LineRules$Expression", "takers", "[J", true)
  | 1 => ("LineRules$Expression", "followers", "[J", true)
  | 2 => ("LineRules$Expression", "firsts", "[J", true)
  | 3 => ("LineRules$Expression", "lasts", "[J", true)
  | 4 => ("LineRules$Expression", "matchesEmpty", "[Z", true)
  | _ => ("LineRules$Expression", "atoms", "I", false)
def fy_Exp : Nat → FieldType := fun k => match k with
  | 0 => .array .long
  | 1 => .array .long
  | 2 => .array .long
  | 3 => .array .long
  | 4 => .array .boolean
  | _ => .int
def rn_Out : String := "LineRules$Output"
def ft_Out : u_T := fun k => match k with
  | 0 => ("LineRules$Output", "kept", "[I", true)
  | _ => ("LineRules$Output", "total", "I", false)
def fy_Out : Nat → FieldType := fun k => match k with
  | 0 => .array .int
  | _ => .int
def rn_Rdr : String := "LineRules$Reader"
def ft_Rdr : u_T := fun k => match k with
  | 0 => ("LineRules$Reader", "kinds", "[I", true)
  | 1 => ("LineRules$Reader", "lefts", "[I", true)
  | 2 => ("LineRules$Reader", "rights", "[I", true)
  | 3 => ("LineRules$Reader", "empties", "[Z", true)
  | 4 => ("LineRules$Reader", "firsts", "[J", true)
  | 5 => ("LineRules$Reader", "lasts", "[J", true)
  | 6 => ("LineRules$Reader", "nodes", "I", false)
  | 7 => ("LineRules$Reader", "made", "LLineRules$Expression;", false)
  | 8 => ("LineRules$Reader", "source", "LLineRules$Row;", false)
  | 9 => ("LineRules$Reader", "at", "I", false)
  | _ => ("LineRules$Reader", "fault", "I", false)
def fy_Rdr : Nat → FieldType := fun k => match k with
  | 0 => .array .int
  | 1 => .array .int
  | 2 => .array .int
  | 3 => .array .boolean
  | 4 => .array .long
  | 5 => .array .long
  | 6 => .int
  | 7 => .object "LineRules$Expression"
  | 8 => .object "LineRules$Row"
  | 9 => .int
  | _ => .int
def rn_Row : String := "LineRules$Row"
def ft_Row : u_T := fun k => match k with
  | 0 => ("LineRules$Row", "signs", "[I", true)
  | _ => ("LineRules$Row", "length", "I", false)
def fy_Row : Nat → FieldType := fun k => match k with
  | 0 => .array .int
  | _ => .int
def rn_Rul : String := "LineRules$Rule"
def ft_Rul : u_T := fun k => match k with
  | 0 => ("LineRules$Rule", "pattern", "I", false)
  | 1 => ("LineRules$Rule", "a", "I", false)
  | 2 => ("LineRules$Rule", "b", "I", false)
  | 3 => ("LineRules$Rule", "actions", "[I", true)
  | 4 => ("LineRules$Rule", "firsts", "[I", true)
  | 5 => ("LineRules$Rule", "seconds", "[I", true)
  | _ => ("LineRules$Rule", "actionCount", "I", false)
def fy_Rul : Nat → FieldType := fun k => match k with
  | 0 => .int
  | 1 => .int
  | 2 => .int
  | 3 => .array .int
  | 4 => .array .int
  | 5 => .array .int
  | _ => .int
def rn_Tab : String := "LineRules$Table"
def ft_Tab : u_T := fun k => match k with
  | 0 => ("LineRules$Table", "keys", "[LLineRules$Row;", true)
  | 1 => ("LineRules$Table", "ints", "[I", true)
  | _ => ("LineRules$Table", "size", "I", false)
def fy_Tab : Nat → FieldType := fun k => match k with
  | 0 => .array (.object "LineRules$Row")
  | 1 => .array .int
  | _ => .int
def rn_Mod : String := "LineRulesModel"
def ft_Mod : u_T := fun k => match k with
  | 0 => ("LineRulesModel", "thrown", "I", false)
  | 1 => ("LineRulesModel", "rows", "[I", true)
  | 2 => ("LineRulesModel", "lengths", "[I", true)
  | 3 => ("LineRulesModel", "expressions", "[I", true)
  | 4 => ("LineRulesModel", "sizes", "[I", true)
  | 5 => ("LineRulesModel", "separator", "I", false)
  | 6 => ("LineRulesModel", "rules", "I", false)
  | 7 => ("LineRulesModel", "patterns", "[I", true)
  | 8 => ("LineRulesModel", "firsts", "[I", true)
  | 9 => ("LineRulesModel", "seconds", "[I", true)
  | 10 => ("LineRulesModel", "manyActions", "[I", true)
  | 11 => ("LineRulesModel", "actions", "[I", true)
  | 12 => ("LineRulesModel", "as", "[I", true)
  | 13 => ("LineRulesModel", "bs", "[I", true)
  | 14 => ("LineRulesModel", "lines", "I", false)
  | 15 => ("LineRulesModel", "fields", "I", false)
  | 16 => ("LineRulesModel", "fieldSigns", "[I", true)
  | 17 => ("LineRulesModel", "fieldLengths", "[I", true)
  | 18 => ("LineRulesModel", "counters", "[I", true)
  | 19 => ("LineRulesModel", "keys", "I", false)
  | 20 => ("LineRulesModel", "keySigns", "[I", true)
  | 21 => ("LineRulesModel", "keyLengths", "[I", true)
  | 22 => ("LineRulesModel", "keyInts", "[I", true)
  | 23 => ("LineRulesModel", "prints", "I", false)
  | 24 => ("LineRulesModel", "print", "[I", true)
  | 25 => ("LineRulesModel", "ended", "I", false)
  | 26 => ("LineRulesModel", "points", "I", false)
  | 27 => ("LineRulesModel", "edges", "I", false)
  | 28 => ("LineRulesModel", "froms", "[I", true)
  | 29 => ("LineRulesModel", "tos", "[I", true)
  | 30 => ("LineRulesModel", "kinds", "[I", true)
  | 31 => ("LineRulesModel", "places", "[I", true)
  | 32 => ("LineRulesModel", "here", "[Z", true)
  | 33 => ("LineRulesModel", "next", "[Z", true)
  | 34 => ("LineRulesModel", "begins", "[I", true)
  | 35 => ("LineRulesModel", "closes", "[I", true)
  | 36 => ("LineRulesModel", "outers", "[I", true)
  | 37 => ("LineRulesModel", "fault", "I", false)
  | 38 => ("LineRulesModel", "from", "I", false)
  | _ => ("LineRulesModel", "to", "I", false)
def fy_Mod : Nat → FieldType := fun k => match k with
  | 0 => .int
  | 1 => .array .int
  | 2 => .array .int
  | 3 => .array .int
  | 4 => .array .int
  | 5 => .int
  | 6 => .int
  | 7 => .array .int
  | 8 => .array .int
  | 9 => .array .int
  | 10 => .array .int
  | 11 => .array .int
  | 12 => .array .int
  | 13 => .array .int
  | 14 => .int
  | 15 => .int
  | 16 => .array .int
  | 17 => .array .int
  | 18 => .array .int
  | 19 => .int
  | 20 => .array .int
  | 21 => .array .int
  | 22 => .array .int
  | 23 => .int
  | 24 => .array .int
  | 25 => .int
  | 26 => .int
  | 27 => .int
  | 28 => .array .int
  | 29 => .array .int
  | 30 => .array .int
  | 31 => .array .int
  | 32 => .array .boolean
  | 33 => .array .boolean
  | 34 => .array .int
  | 35 => .array .int
  | 36 => .array .int
  | 37 => .int
  | 38 => .int
  | _ => .int
abbrev wl_CL : List vw_C := [(rn_LR, ft_LR, 14), (rn_Cut, ft_Cut, 5), (rn_Exp, ft_Exp, 6), (rn_Out, ft_Out, 2), (rn_Rdr, ft_Rdr, 11), (rn_Row, ft_Row, 2), (rn_Rul, ft_Rul, 7), (rn_Tab, ft_Tab, 3), (rn_Mod, ft_Mod, 40)]
def wl_TY : Nat → Nat → FieldType := fun c => match c with
  | 0 => fy_LR
  | 1 => fy_Cut
  | 2 => fy_Exp
  | 3 => fy_Out
  | 4 => fy_Rdr
  | 5 => fy_Row
  | 6 => fy_Rul
  | 7 => fy_Tab
  | _ => fy_Mod
/-- kinds of arrays: 0 ints, 1 booleans, 2 longs, 3 rows, 4 expressions, 5 rules, 6 the script -/
def wl_AT : Nat → FieldType := fun y => match y with
  | 1 => .boolean
  | 2 => .long
  | 3 => .object "LineRules$Row"
  | 4 => .object "LineRules$Expression"
  | 5 => .object "LineRules$Rule"
  | _ => .int
abbrev wl_AN : Nat := 7
abbrev wl_AS : Nat := 6
def wl_OV : List String := ["LineRules$Row", "LineRules$Expression", "LineRules$Rule"]
theorem lw_LR_all : ∀ w ∈ u_ws rn_LR ft_LR 14, w ∈ wl_ALL := by
  show ∀ w ∈ [u_lay rn_LR ft_LR 0, u_lay rn_LR ft_LR 1, u_lay rn_LR ft_LR 2, u_lay rn_LR ft_LR 3, u_lay rn_LR ft_LR 4, u_lay rn_LR ft_LR 5, u_lay rn_LR ft_LR 6, u_lay rn_LR ft_LR 7, u_lay rn_LR ft_LR 8, u_lay rn_LR ft_LR 9, u_lay rn_LR ft_LR 10, u_lay rn_LR ft_LR 11, u_lay rn_LR ft_LR 12, u_lay rn_LR ft_LR 13], w ∈ wl_ALL
  exact List.forall_mem_cons.mpr ⟨wl_mem 304 (by decide +kernel) rfl, List.forall_mem_cons.mpr ⟨wl_mem 306 (by decide +kernel) rfl, List.forall_mem_cons.mpr ⟨wl_mem 308 (by decide +kernel) rfl, List.forall_mem_cons.mpr ⟨wl_mem 310 (by decide +kernel) rfl, List.forall_mem_cons.mpr ⟨wl_mem 312 (by decide +kernel) rfl, List.forall_mem_cons.mpr ⟨wl_mem 314 (by decide +kernel) rfl, List.forall_mem_cons.mpr ⟨wl_mem 316 (by decide +kernel) rfl, List.forall_mem_cons.mpr ⟨wl_mem 318 (by decide +kernel) rfl, List.forall_mem_cons.mpr ⟨wl_mem 320 (by decide +kernel) rfl, List.forall_mem_cons.mpr ⟨wl_mem 322 (by decide +kernel) rfl, List.forall_mem_cons.mpr ⟨wl_mem 324 (by decide +kernel) rfl, List.forall_mem_cons.mpr ⟨wl_mem 326 (by decide +kernel) rfl, List.forall_mem_cons.mpr ⟨wl_mem 328 (by decide +kernel) rfl, List.forall_mem_cons.mpr ⟨wl_mem 330 (by decide +kernel) rfl, fun _ h => absurd h List.not_mem_nil⟩⟩⟩⟩⟩⟩⟩⟩⟩⟩⟩⟩⟩⟩
theorem nn_LR : ∀ a, a < 14 → ∀ b, b < 14 → a ≠ b → (ft_LR a).2.1 ≠ (ft_LR b).2.1 := by decide +kernel
theorem ny_LR : ∀ k, k < 14 → parseFieldDescriptor (ft_LR k).2.2.1 = some (fy_LR k) := by decide +kernel
theorem lw_Cut_all : ∀ w ∈ u_ws rn_Cut ft_Cut 5, w ∈ wl_ALL := by
  show ∀ w ∈ [u_lay rn_Cut ft_Cut 0, u_lay rn_Cut ft_Cut 1, u_lay rn_Cut ft_Cut 2, u_lay rn_Cut ft_Cut 3, u_lay rn_Cut ft_Cut 4], w ∈ wl_ALL
  exact List.forall_mem_cons.mpr ⟨wl_mem 210 (by decide +kernel) rfl, List.forall_mem_cons.mpr ⟨wl_mem 212 (by decide +kernel) rfl, List.forall_mem_cons.mpr ⟨wl_mem 214 (by decide +kernel) rfl, List.forall_mem_cons.mpr ⟨wl_mem 216 (by decide +kernel) rfl, List.forall_mem_cons.mpr ⟨wl_mem 218 (by decide +kernel) rfl, fun _ h => absurd h List.not_mem_nil⟩⟩⟩⟩⟩
theorem nn_Cut : ∀ a, a < 5 → ∀ b, b < 5 → a ≠ b → (ft_Cut a).2.1 ≠ (ft_Cut b).2.1 := by decide +kernel
theorem ny_Cut : ∀ k, k < 5 → parseFieldDescriptor (ft_Cut k).2.2.1 = some (fy_Cut k) := by decide +kernel
theorem lw_Exp_all : ∀ w ∈ u_ws rn_Exp ft_Exp 6, w ∈ wl_ALL := by
  show ∀ w ∈ [u_lay rn_Exp ft_Exp 0, u_lay rn_Exp ft_Exp 1, u_lay rn_Exp ft_Exp 2, u_lay rn_Exp ft_Exp 3, u_lay rn_Exp ft_Exp 4, u_lay rn_Exp ft_Exp 5], w ∈ wl_ALL
  exact List.forall_mem_cons.mpr ⟨wl_mem 142 (by decide +kernel) rfl, List.forall_mem_cons.mpr ⟨wl_mem 144 (by decide +kernel) rfl, List.forall_mem_cons.mpr ⟨wl_mem 146 (by decide +kernel) rfl, List.forall_mem_cons.mpr ⟨wl_mem 148 (by decide +kernel) rfl, List.forall_mem_cons.mpr ⟨wl_mem 150 (by decide +kernel) rfl, List.forall_mem_cons.mpr ⟨wl_mem 152 (by decide +kernel) rfl, fun _ h => absurd h List.not_mem_nil⟩⟩⟩⟩⟩⟩
theorem nn_Exp : ∀ a, a < 6 → ∀ b, b < 6 → a ≠ b → (ft_Exp a).2.1 ≠ (ft_Exp b).2.1 := by decide +kernel
theorem ny_Exp : ∀ k, k < 6 → parseFieldDescriptor (ft_Exp k).2.2.1 = some (fy_Exp k) := by decide +kernel
theorem lw_Out_all : ∀ w ∈ u_ws rn_Out ft_Out 2, w ∈ wl_ALL := by
  show ∀ w ∈ [u_lay rn_Out ft_Out 0, u_lay rn_Out ft_Out 1], w ∈ wl_ALL
  exact List.forall_mem_cons.mpr ⟨wl_mem 250 (by decide +kernel) rfl, List.forall_mem_cons.mpr ⟨wl_mem 252 (by decide +kernel) rfl, fun _ h => absurd h List.not_mem_nil⟩⟩
theorem nn_Out : ∀ a, a < 2 → ∀ b, b < 2 → a ≠ b → (ft_Out a).2.1 ≠ (ft_Out b).2.1 := by decide +kernel
theorem ny_Out : ∀ k, k < 2 → parseFieldDescriptor (ft_Out k).2.2.1 = some (fy_Out k) := by decide +kernel
theorem lw_Rdr_all : ∀ w ∈ u_ws rn_Rdr ft_Rdr 11, w ∈ wl_ALL := by
  show ∀ w ∈ [u_lay rn_Rdr ft_Rdr 0, u_lay rn_Rdr ft_Rdr 1, u_lay rn_Rdr ft_Rdr 2, u_lay rn_Rdr ft_Rdr 3, u_lay rn_Rdr ft_Rdr 4, u_lay rn_Rdr ft_Rdr 5, u_lay rn_Rdr ft_Rdr 6, u_lay rn_Rdr ft_Rdr 7, u_lay rn_Rdr ft_Rdr 8, u_lay rn_Rdr ft_Rdr 9, u_lay rn_Rdr ft_Rdr 10], w ∈ wl_ALL
  exact List.forall_mem_cons.mpr ⟨wl_mem 170 (by decide +kernel) rfl, List.forall_mem_cons.mpr ⟨wl_mem 172 (by decide +kernel) rfl, List.forall_mem_cons.mpr ⟨wl_mem 174 (by decide +kernel) rfl, List.forall_mem_cons.mpr ⟨wl_mem 176 (by decide +kernel) rfl, List.forall_mem_cons.mpr ⟨wl_mem 178 (by decide +kernel) rfl, List.forall_mem_cons.mpr ⟨wl_mem 180 (by decide +kernel) rfl, List.forall_mem_cons.mpr ⟨wl_mem 182 (by decide +kernel) rfl, List.forall_mem_cons.mpr ⟨wl_mem 184 (by decide +kernel) rfl, List.forall_mem_cons.mpr ⟨wl_mem 186 (by decide +kernel) rfl, List.forall_mem_cons.mpr ⟨wl_mem 188 (by decide +kernel) rfl, List.forall_mem_cons.mpr ⟨wl_mem 190 (by decide +kernel) rfl, fun _ h => absurd h List.not_mem_nil⟩⟩⟩⟩⟩⟩⟩⟩⟩⟩⟩
theorem nn_Rdr : ∀ a, a < 11 → ∀ b, b < 11 → a ≠ b → (ft_Rdr a).2.1 ≠ (ft_Rdr b).2.1 := by decide +kernel
theorem ny_Rdr : ∀ k, k < 11 → parseFieldDescriptor (ft_Rdr k).2.2.1 = some (fy_Rdr k) := by decide +kernel
theorem lw_Row_all : ∀ w ∈ u_ws rn_Row ft_Row 2, w ∈ wl_ALL := by
  show ∀ w ∈ [u_lay rn_Row ft_Row 0, u_lay rn_Row ft_Row 1], w ∈ wl_ALL
  exact List.forall_mem_cons.mpr ⟨wl_mem 109 (by decide +kernel) rfl, List.forall_mem_cons.mpr ⟨wl_mem 111 (by decide +kernel) rfl, fun _ h => absurd h List.not_mem_nil⟩⟩
theorem nn_Row : ∀ a, a < 2 → ∀ b, b < 2 → a ≠ b → (ft_Row a).2.1 ≠ (ft_Row b).2.1 := by decide +kernel
theorem ny_Row : ∀ k, k < 2 → parseFieldDescriptor (ft_Row k).2.2.1 = some (fy_Row k) := by decide +kernel
theorem lw_Rul_all : ∀ w ∈ u_ws rn_Rul ft_Rul 7, w ∈ wl_ALL := by
  show ∀ w ∈ [u_lay rn_Rul ft_Rul 0, u_lay rn_Rul ft_Rul 1, u_lay rn_Rul ft_Rul 2, u_lay rn_Rul ft_Rul 3, u_lay rn_Rul ft_Rul 4, u_lay rn_Rul ft_Rul 5, u_lay rn_Rul ft_Rul 6], w ∈ wl_ALL
  exact List.forall_mem_cons.mpr ⟨wl_mem 275 (by decide +kernel) rfl, List.forall_mem_cons.mpr ⟨wl_mem 277 (by decide +kernel) rfl, List.forall_mem_cons.mpr ⟨wl_mem 279 (by decide +kernel) rfl, List.forall_mem_cons.mpr ⟨wl_mem 281 (by decide +kernel) rfl, List.forall_mem_cons.mpr ⟨wl_mem 283 (by decide +kernel) rfl, List.forall_mem_cons.mpr ⟨wl_mem 285 (by decide +kernel) rfl, List.forall_mem_cons.mpr ⟨wl_mem 287 (by decide +kernel) rfl, fun _ h => absurd h List.not_mem_nil⟩⟩⟩⟩⟩⟩⟩
theorem nn_Rul : ∀ a, a < 7 → ∀ b, b < 7 → a ≠ b → (ft_Rul a).2.1 ≠ (ft_Rul b).2.1 := by decide +kernel
theorem ny_Rul : ∀ k, k < 7 → parseFieldDescriptor (ft_Rul k).2.2.1 = some (fy_Rul k) := by decide +kernel
theorem lw_Tab_all : ∀ w ∈ u_ws rn_Tab ft_Tab 3, w ∈ wl_ALL := by
  show ∀ w ∈ [u_lay rn_Tab ft_Tab 0, u_lay rn_Tab ft_Tab 1, u_lay rn_Tab ft_Tab 2], w ∈ wl_ALL
  exact List.forall_mem_cons.mpr ⟨wl_mem 234 (by decide +kernel) rfl, List.forall_mem_cons.mpr ⟨wl_mem 236 (by decide +kernel) rfl, List.forall_mem_cons.mpr ⟨wl_mem 238 (by decide +kernel) rfl, fun _ h => absurd h List.not_mem_nil⟩⟩⟩
theorem nn_Tab : ∀ a, a < 3 → ∀ b, b < 3 → a ≠ b → (ft_Tab a).2.1 ≠ (ft_Tab b).2.1 := by decide +kernel
theorem ny_Tab : ∀ k, k < 3 → parseFieldDescriptor (ft_Tab k).2.2.1 = some (fy_Tab k) := by decide +kernel
theorem lw_Mod_all : ∀ w ∈ u_ws rn_Mod ft_Mod 40, w ∈ wl_ALL := by
  show ∀ w ∈ [u_lay rn_Mod ft_Mod 0, u_lay rn_Mod ft_Mod 1, u_lay rn_Mod ft_Mod 2, u_lay rn_Mod ft_Mod 3, u_lay rn_Mod ft_Mod 4, u_lay rn_Mod ft_Mod 5, u_lay rn_Mod ft_Mod 6, u_lay rn_Mod ft_Mod 7, u_lay rn_Mod ft_Mod 8, u_lay rn_Mod ft_Mod 9, u_lay rn_Mod ft_Mod 10, u_lay rn_Mod ft_Mod 11, u_lay rn_Mod ft_Mod 12, u_lay rn_Mod ft_Mod 13, u_lay rn_Mod ft_Mod 14, u_lay rn_Mod ft_Mod 15, u_lay rn_Mod ft_Mod 16, u_lay rn_Mod ft_Mod 17, u_lay rn_Mod ft_Mod 18, u_lay rn_Mod ft_Mod 19, u_lay rn_Mod ft_Mod 20, u_lay rn_Mod ft_Mod 21, u_lay rn_Mod ft_Mod 22, u_lay rn_Mod ft_Mod 23, u_lay rn_Mod ft_Mod 24, u_lay rn_Mod ft_Mod 25, u_lay rn_Mod ft_Mod 26, u_lay rn_Mod ft_Mod 27, u_lay rn_Mod ft_Mod 28, u_lay rn_Mod ft_Mod 29, u_lay rn_Mod ft_Mod 30, u_lay rn_Mod ft_Mod 31, u_lay rn_Mod ft_Mod 32, u_lay rn_Mod ft_Mod 33, u_lay rn_Mod ft_Mod 34, u_lay rn_Mod ft_Mod 35, u_lay rn_Mod ft_Mod 36, u_lay rn_Mod ft_Mod 37, u_lay rn_Mod ft_Mod 38, u_lay rn_Mod ft_Mod 39], w ∈ wl_ALL
  exact List.forall_mem_cons.mpr ⟨wl_mem 897 (by decide +kernel) rfl, List.forall_mem_cons.mpr ⟨wl_mem 899 (by decide +kernel) rfl, List.forall_mem_cons.mpr ⟨wl_mem 901 (by decide +kernel) rfl, List.forall_mem_cons.mpr ⟨wl_mem 903 (by decide +kernel) rfl, List.forall_mem_cons.mpr ⟨wl_mem 905 (by decide +kernel) rfl, List.forall_mem_cons.mpr ⟨wl_mem 907 (by decide +kernel) rfl, List.forall_mem_cons.mpr ⟨wl_mem 909 (by decide +kernel) rfl, List.forall_mem_cons.mpr ⟨wl_mem 911 (by decide +kernel) rfl, List.forall_mem_cons.mpr ⟨wl_mem 913 (by decide +kernel) rfl, List.forall_mem_cons.mpr ⟨wl_mem 915 (by decide +kernel) rfl, List.forall_mem_cons.mpr ⟨wl_mem 917 (by decide +kernel) rfl, List.forall_mem_cons.mpr ⟨wl_mem 919 (by decide +kernel) rfl, List.forall_mem_cons.mpr ⟨wl_mem 921 (by decide +kernel) rfl, List.forall_mem_cons.mpr ⟨wl_mem 923 (by decide +kernel) rfl, List.forall_mem_cons.mpr ⟨wl_mem 925 (by decide +kernel) rfl, List.forall_mem_cons.mpr ⟨wl_mem 927 (by decide +kernel) rfl, List.forall_mem_cons.mpr ⟨wl_mem 929 (by decide +kernel) rfl, List.forall_mem_cons.mpr ⟨wl_mem 931 (by decide +kernel) rfl, List.forall_mem_cons.mpr ⟨wl_mem 933 (by decide +kernel) rfl, List.forall_mem_cons.mpr ⟨wl_mem 935 (by decide +kernel) rfl, List.forall_mem_cons.mpr ⟨wl_mem 937 (by decide +kernel) rfl, List.forall_mem_cons.mpr ⟨wl_mem 939 (by decide +kernel) rfl, List.forall_mem_cons.mpr ⟨wl_mem 941 (by decide +kernel) rfl, List.forall_mem_cons.mpr ⟨wl_mem 943 (by decide +kernel) rfl, List.forall_mem_cons.mpr ⟨wl_mem 945 (by decide +kernel) rfl, List.forall_mem_cons.mpr ⟨wl_mem 947 (by decide +kernel) rfl, List.forall_mem_cons.mpr ⟨wl_mem 949 (by decide +kernel) rfl, List.forall_mem_cons.mpr ⟨wl_mem 951 (by decide +kernel) rfl, List.forall_mem_cons.mpr ⟨wl_mem 953 (by decide +kernel) rfl, List.forall_mem_cons.mpr ⟨wl_mem 955 (by decide +kernel) rfl, List.forall_mem_cons.mpr ⟨wl_mem 957 (by decide +kernel) rfl, List.forall_mem_cons.mpr ⟨wl_mem 959 (by decide +kernel) rfl, List.forall_mem_cons.mpr ⟨wl_mem 961 (by decide +kernel) rfl, List.forall_mem_cons.mpr ⟨wl_mem 963 (by decide +kernel) rfl, List.forall_mem_cons.mpr ⟨wl_mem 965 (by decide +kernel) rfl, List.forall_mem_cons.mpr ⟨wl_mem 967 (by decide +kernel) rfl, List.forall_mem_cons.mpr ⟨wl_mem 969 (by decide +kernel) rfl, List.forall_mem_cons.mpr ⟨wl_mem 971 (by decide +kernel) rfl, List.forall_mem_cons.mpr ⟨wl_mem 973 (by decide +kernel) rfl, List.forall_mem_cons.mpr ⟨wl_mem 975 (by decide +kernel) rfl, fun _ h => absurd h List.not_mem_nil⟩⟩⟩⟩⟩⟩⟩⟩⟩⟩⟩⟩⟩⟩⟩⟩⟩⟩⟩⟩⟩⟩⟩⟩⟩⟩⟩⟩⟩⟩⟩⟩⟩⟩⟩⟩⟩⟩⟩⟩
theorem nn_Mod : ∀ a, a < 40 → ∀ b, b < 40 → a ≠ b → (ft_Mod a).2.1 ≠ (ft_Mod b).2.1 := by decide +kernel
theorem ny_Mod : ∀ k, k < 40 → parseFieldDescriptor (ft_Mod k).2.2.1 = some (fy_Mod k) := by decide +kernel
theorem wl_ok : ∀ (c : Nat) (q : vw_C), wl_CL[c]? = some q → (∀ w ∈ u_ws q.1 q.2.1 q.2.2, w ∈ wl_ALL) ∧ (∀ k, k < q.2.2 → parseFieldDescriptor (q.2.1 k).2.2.1 = some (wl_TY c k)) ∧ ∀ a, a < q.2.2 → ∀ b, b < q.2.2 → a ≠ b → (q.2.1 a).2.1 ≠ (q.2.1 b).2.1 := by
  intro c q h
  match c, h with
  | 0, h => cases h; exact ⟨lw_LR_all, ny_LR, nn_LR⟩
  | 1, h => cases h; exact ⟨lw_Cut_all, ny_Cut, nn_Cut⟩
  | 2, h => cases h; exact ⟨lw_Exp_all, ny_Exp, nn_Exp⟩
  | 3, h => cases h; exact ⟨lw_Out_all, ny_Out, nn_Out⟩
  | 4, h => cases h; exact ⟨lw_Rdr_all, ny_Rdr, nn_Rdr⟩
  | 5, h => cases h; exact ⟨lw_Row_all, ny_Row, nn_Row⟩
  | 6, h => cases h; exact ⟨lw_Rul_all, ny_Rul, nn_Rul⟩
  | 7, h => cases h; exact ⟨lw_Tab_all, ny_Tab, nn_Tab⟩
  | 8, h => cases h; exact ⟨lw_Mod_all, ny_Mod, nn_Mod⟩
/-- the handlers of a method: the law's own alone have some -/
def wl_HL : List (String × List (Nat × Nat × Nat × Nat)) := [("feed", [(0, 16, 19, 13)]), ("expression", [(0, 9, 12, 19), (0, 9, 15, 13)]), ("text", [(0, 9, 12, 19)]), ("separator", [(0, 9, 12, 27)]), ("rule", [(0, 12, 15, 19), (0, 12, 19, 13)]), ("action", [(0, 14, 17, 19), (0, 14, 21, 13)]), ("find", [(0, 10, 13, 19)]), ("sign", [(0, 10, 13, 19)]), ("printed", [(0, 9, 12, 19)]), ("counter", [(0, 9, 12, 19)]), ("key", [(0, 10, 13, 19)]), ("count", [(0, 9, 12, 27)])]
def wl_H (x : MethodName) : List (Nat × Nat × Nat × Nat) := if x.cls = "LineRulesLaw" then ((wl_HL.find? (fun q => q.1 == x.name)).map (·.2)).getD [] else []
/-- words on old cells: strings that a pool holds, static fields -/
def wl_jw : Cond → Bool
  | .stringRef .. => true
  | .laysStatic .. => true
  | .isRef (.static ..) => true
  | .not (.castable ..) => true
  | .declares _ => true
  | _ => false
/-- of the premises: the static fields hold references; the one exception is not the other -/
def wl_NJ : List Cond := [.isRef (.static "java/lang/Throwable" "UNASSIGNED_STACK" "[Ljava/lang/StackTraceElement;"), .isRef (.static "java/lang/Throwable" "SUPPRESSED_SENTINEL" "Ljava/util/List;"), .not (.castable "java/lang/IllegalStateException" "java/util/NoSuchElementException")]
def wl_JW : List Cond := lw_tbl.filter wl_jw ++ wl_NJ
theorem wl_jmem {c : Cond} (n : Nat) (h : lw_tbl[n]? = some c) (hg : wl_jw c = true) : c ∈ wl_JW := List.mem_append_left _ (List.mem_filter.mpr ⟨List.mem_of_getElem? h, hg⟩)
theorem wl_jnew {c : Cond} (n : Nat) (h : wl_NJ[n]? = some c) : c ∈ wl_JW := List.mem_append_right _ (List.mem_of_getElem? h)
theorem wl_jw_all {w : Cond} (hw : w ∈ wl_JW) : wl_jw w = true := by
  rcases List.mem_append.mp hw with h | h
  · exact (List.mem_filter.mp h).2
  · simp only [wl_NJ, List.mem_cons, List.not_mem_nil, or_false] at h
    rcases h with rfl | rfl | rfl <;> rfl
/-- the run began at a state of n0 cells, with warmer tables now, and its cells are as they were -/
def wl_J (n0 : Nat) (U : State) : Prop := ∃ s0 : State, s0.heap.size = n0 ∧ s0.WarmedH U.vm ∧ (∀ q : Nat, q < n0 → U.heap[q]? = s0.heap[q]?) ∧ ∀ w ∈ wl_JW, w.before #[] s0 = true
theorem wl_J_moved {n0 : Nat} {u U : State} (hW : u.WarmedH U.vm) (hh : ∀ q : Nat, q < n0 → U.heap[q]? = u.heap[q]?) (h : wl_J n0 u) : wl_J n0 U := by
  obtain ⟨s0, h1, h2, h3, h4⟩ := h
  exact ⟨s0, h1, State.WarmedH.trans h2 hW, fun q hq => (hh q hq).trans (h3 q hq), h4⟩
theorem wl_static {s0 U : State} {n0 : Nat} (h1 : s0.heap.size = n0) (h2 : s0.WarmedH U.vm) (h3 : ∀ q : Nat, q < n0 → U.heap[q]? = s0.heap[q]?) {A : Array Value} {o n d : String} {v : Value} (hv : (Term.static o n d).eval #[] s0 none [] s0 = some v) : (Term.static o n d).eval A U none [] U = some v := by
  have hv' := Term.static_setVm h2.alike hv
  cases hi : (s0.setVm U.vm).fieldFound? o n d with
  | none => simp [Term.eval, State.fieldNamed?, hi] at hv'
  | some w =>
    obtain ⟨c, k, i, f⟩ := w
    obtain ⟨hst, a, cell, ha, hcell, -, hslot⟩ := Term.static_spec hi hv'
    have hs : cell.vm.isStatics = true := by
      cases hb : cell.vm.isStatics with
      | true => rfl
      | false =>
        have hc2 : s0.heap[a]? = some cell := hcell
        simp [Term.eval, State.fieldNamed?, hi, hst, ha, hc2, hb] at hv'
    have hlt : a < n0 := h1 ▸ (Array.getElem?_eq_some_iff.mp hcell).1
    exact Term.static_eval (s := U) hi hst ha ((h3 a hlt).trans hcell) hs hslot
theorem wl_J_word {n0 : Nat} {U : State} (h : wl_J n0 U) {w : Cond} (hw : w ∈ wl_JW) (A : Array Value) : w.before A U = true := by
  obtain ⟨s0, h1, h2, h3, h4⟩ := h
  have hb := h4 w hw
  have hj := wl_jw_all hw
  match w, hj, hb with
  | .stringRef c x tx, _, hb => exact Cond.stringRef_warmed h2 hb
  | .laysStatic o n d, _, hb =>
    obtain ⟨c, k, i, f, a, cell, hc, hi, hst, ha, hcell, hs, hcls, hlt, hty⟩ := Cond.laysStatic_spec (Cond.laysStatic_setVm h2.alike hb)
    have ha0 : a < n0 := h1 ▸ (Array.getElem?_eq_some_iff.mp hcell).1
    exact Cond.laysStatic_of (s := U) hc hi hst ha ((h3 a ha0).trans hcell) hs hcls hlt hty
  | .isRef (.static o n d), _, hb =>
    simp only [Cond.before, Cond.holds, Cond.value] at hb ⊢
    cases hv : (Term.static o n d).eval #[] s0 none [] s0 with
    | none => rw [hv] at hb; cases hb
    | some v => rw [hv] at hb; rw [wl_static h1 h2 h3 hv]; exact hb
  | .not (.castable a b), _, hb => exact Cond.castAtom_setVm h2.alike _ rfl hb
  | .declares x, _, hb => exact Cond.faceAtom_setVm h2.alike (.declares x) rfl hb
