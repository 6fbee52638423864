/-- those words of the table that every callee may be given -/
def lw_g : List Cond := lw_tbl.filter goodWord
theorem lw_g_in {w : Cond} (h : w ∈ lw_g) : w ∈ lw_tbl := (List.mem_filter.mp h).1
theorem lw_g_of {w : Cond} (h : w ∈ lw_tbl) (hg : goodWord w = true) : w ∈ lw_g := List.mem_filter.mpr ⟨h, hg⟩
theorem lw_lay {C : String} {T : u_T} {N : Nat} (h : ∀ w ∈ u_ws C T N, w ∈ lw_tbl) : ∀ w ∈ u_ws C T N, w ∈ lw_g := by
  intro w hw
  refine lw_g_of (h w hw) ?_
  obtain ⟨k, -, rfl⟩ := List.mem_map.mp hw
  unfold u_lay
  split <;> rfl
abbrev R_Data : String := "SquareSymbols$Data"
def F_Data : u_T := fun k => match k with
  | 0 => ("SquareSymbols$Data", "bytes", "[B", true)
  | _ => ("SquareSymbols$Data", "size", "I", false)
def t_Data : Nat → FieldType := fun k => match k with
  | 0 => .array .byte
  | _ => .int
theorem n_Data : ∀ a, a < 2 → ∀ b, b < 2 → a ≠ b → (F_Data a).2.1 ≠ (F_Data b).2.1 := by decide +kernel
theorem t_Data_ok : ∀ k, k < 2 → parseFieldDescriptor (F_Data k).2.2.1 = some (t_Data k) := by decide +kernel
theorem i_Data : ∀ w ∈ u_ws R_Data F_Data 2, w ∈ lw_g := lw_lay (by decide +kernel)
abbrev R_Division : String := "SquareSymbols$Division"
def F_Division : u_T := fun k => match k with
  | 0 => ("SquareSymbols$Division", "choices", "[I", true)
  | 1 => ("SquareSymbols$Division", "bitsBehind", "[I", true)
  | 2 => ("SquareSymbols$Division", "bitsHere", "[I", true)
  | 3 => ("SquareSymbols$Division", "freshBits", "[I", true)
  | 4 => ("SquareSymbols$Division", "size", "I", false)
  | 5 => ("SquareSymbols$Division", "from", "I", false)
  | 6 => ("SquareSymbols$Division", "next", "I", false)
  | 7 => ("SquareSymbols$Division", "mode", "I", false)
  | _ => ("SquareSymbols$Division", "state", "I", false)
def t_Division : Nat → FieldType := fun k => match k with
  | 0 => .array .int
  | 1 => .array .int
  | 2 => .array .int
  | 3 => .array .int
  | 4 => .int
  | 5 => .int
  | 6 => .int
  | 7 => .int
  | _ => .int
theorem n_Division : ∀ a, a < 9 → ∀ b, b < 9 → a ≠ b → (F_Division a).2.1 ≠ (F_Division b).2.1 := by decide +kernel
theorem t_Division_ok : ∀ k, k < 9 → parseFieldDescriptor (F_Division k).2.2.1 = some (t_Division k) := by decide +kernel
theorem i_Division : ∀ w ∈ u_ws R_Division F_Division 9, w ∈ lw_g := lw_lay (by decide +kernel)
abbrev R_Field : String := "SquareSymbols$Field"
def F_Field : u_T := fun k => match k with
  | 0 => ("SquareSymbols$Field", "powers", "[I", true)
  | _ => ("SquareSymbols$Field", "logs", "[I", true)
def t_Field : Nat → FieldType := fun k => match k with
  | 0 => .array .int
  | _ => .array .int
theorem n_Field : ∀ a, a < 2 → ∀ b, b < 2 → a ≠ b → (F_Field a).2.1 ≠ (F_Field b).2.1 := by decide +kernel
theorem t_Field_ok : ∀ k, k < 2 → parseFieldDescriptor (F_Field k).2.2.1 = some (t_Field k) := by decide +kernel
theorem i_Field : ∀ w ∈ u_ws R_Field F_Field 2, w ∈ lw_g := lw_lay (by decide +kernel)
abbrev R_Codewords : String := "SquareSymbols$Codewords"
def F_Codewords : u_T := fun k => match k with
  | 0 => ("SquareSymbols$Codewords", "field", "LSquareSymbols$Field;", true)
  | 1 => ("SquareSymbols$Codewords", "bytes", "[B", true)
  | 2 => ("SquareSymbols$Codewords", "generator", "[I", true)
  | 3 => ("SquareSymbols$Codewords", "rest", "[I", true)
  | 4 => ("SquareSymbols$Codewords", "version", "I", false)
  | 5 => ("SquareSymbols$Codewords", "total", "I", false)
  | 6 => ("SquareSymbols$Codewords", "holds", "I", false)
  | 7 => ("SquareSymbols$Codewords", "blocks", "I", false)
  | 8 => ("SquareSymbols$Codewords", "checks", "I", false)
  | 9 => ("SquareSymbols$Codewords", "shortLength", "I", false)
  | 10 => ("SquareSymbols$Codewords", "shortBlocks", "I", false)
  | 11 => ("SquareSymbols$Codewords", "filled", "I", false)
  | 12 => ("SquareSymbols$Codewords", "waiting", "I", false)
  | _ => ("SquareSymbols$Codewords", "waitingBits", "I", false)
def t_Codewords : Nat → FieldType := fun k => match k with
  | 0 => .object "SquareSymbols$Field"
  | 1 => .array .byte
  | 2 => .array .int
  | 3 => .array .int
  | 4 => .int
  | 5 => .int
  | 6 => .int
  | 7 => .int
  | 8 => .int
  | 9 => .int
  | 10 => .int
  | 11 => .int
  | 12 => .int
  | _ => .int
theorem n_Codewords : ∀ a, a < 14 → ∀ b, b < 14 → a ≠ b → (F_Codewords a).2.1 ≠ (F_Codewords b).2.1 := by decide +kernel
theorem t_Codewords_ok : ∀ k, k < 14 → parseFieldDescriptor (F_Codewords k).2.2.1 = some (t_Codewords k) := by decide +kernel
theorem i_Codewords : ∀ w ∈ u_ws R_Codewords F_Codewords 14, w ∈ lw_g := lw_lay (by decide +kernel)
abbrev R_Mender : String := "SquareSymbols$Mender"
def F_Mender : u_T := fun k => match k with
  | 0 => ("SquareSymbols$Mender", "field", "LSquareSymbols$Field;", true)
  | 1 => ("SquareSymbols$Mender", "block", "[I", true)
  | 2 => ("SquareSymbols$Mender", "syndromes", "[I", true)
  | 3 => ("SquareSymbols$Mender", "locator", "[I", true)
  | 4 => ("SquareSymbols$Mender", "olderLocator", "[I", true)
  | 5 => ("SquareSymbols$Mender", "keptLocator", "[I", true)
  | 6 => ("SquareSymbols$Mender", "evaluator", "[I", true)
  | _ => ("SquareSymbols$Mender", "places", "[I", true)
def t_Mender : Nat → FieldType := fun k => match k with
  | 0 => .object "SquareSymbols$Field"
  | 1 => .array .int
  | 2 => .array .int
  | 3 => .array .int
  | 4 => .array .int
  | 5 => .array .int
  | 6 => .array .int
  | _ => .array .int
theorem n_Mender : ∀ a, a < 8 → ∀ b, b < 8 → a ≠ b → (F_Mender a).2.1 ≠ (F_Mender b).2.1 := by decide +kernel
theorem t_Mender_ok : ∀ k, k < 8 → parseFieldDescriptor (F_Mender k).2.2.1 = some (t_Mender k) := by decide +kernel
theorem i_Mender : ∀ w ∈ u_ws R_Mender F_Mender 8, w ∈ lw_g := lw_lay (by decide +kernel)
abbrev R_Parser : String := "SquareSymbols$Parser"
def F_Parser : u_T := fun k => match k with
  | 0 => ("SquareSymbols$Parser", "words", "LSquareSymbols$Codewords;", true)
  | 1 => ("SquareSymbols$Parser", "target", "LSquareSymbols$Data;", false)
  | 2 => ("SquareSymbols$Parser", "version", "I", false)
  | 3 => ("SquareSymbols$Parser", "next", "I", false)
  | 4 => ("SquareSymbols$Parser", "size", "I", false)
  | _ => ("SquareSymbols$Parser", "segments", "I", false)
def t_Parser : Nat → FieldType := fun k => match k with
  | 0 => .object "SquareSymbols$Codewords"
  | 1 => .object "SquareSymbols$Data"
  | 2 => .int
  | 3 => .int
  | 4 => .int
  | _ => .int
theorem n_Parser : ∀ a, a < 6 → ∀ b, b < 6 → a ≠ b → (F_Parser a).2.1 ≠ (F_Parser b).2.1 := by decide +kernel
theorem t_Parser_ok : ∀ k, k < 6 → parseFieldDescriptor (F_Parser k).2.2.1 = some (t_Parser k) := by decide +kernel
theorem i_Parser : ∀ w ∈ u_ws R_Parser F_Parser 6, w ∈ lw_g := lw_lay (by decide +kernel)
abbrev R_Grid : String := "SquareSymbols$Grid"
def F_Grid : u_T := fun k => match k with
  | 0 => ("SquareSymbols$Grid", "words", "[J", true)
  | _ => ("SquareSymbols$Grid", "side", "I", false)
def t_Grid : Nat → FieldType := fun k => match k with
  | 0 => .array .long
  | _ => .int
theorem n_Grid : ∀ a, a < 2 → ∀ b, b < 2 → a ≠ b → (F_Grid a).2.1 ≠ (F_Grid b).2.1 := by decide +kernel
theorem t_Grid_ok : ∀ k, k < 2 → parseFieldDescriptor (F_Grid k).2.2.1 = some (t_Grid k) := by decide +kernel
theorem i_Grid : ∀ w ∈ u_ws R_Grid F_Grid 2, w ∈ lw_g := lw_lay (by decide +kernel)
abbrev R_Frame : String := "SquareSymbols$Frame"
def F_Frame : u_T := fun k => match k with
  | 0 => ("SquareSymbols$Frame", "fixed", "LSquareSymbols$Grid;", true)
  | 1 => ("SquareSymbols$Frame", "dark", "LSquareSymbols$Grid;", true)
  | 2 => ("SquareSymbols$Frame", "maskRows", "[J", true)
  | 3 => ("SquareSymbols$Frame", "side", "I", false)
  | 4 => ("SquareSymbols$Frame", "next", "I", false)
  | 5 => ("SquareSymbols$Frame", "x", "I", false)
  | _ => ("SquareSymbols$Frame", "y", "I", false)
def t_Frame : Nat → FieldType := fun k => match k with
  | 0 => .object "SquareSymbols$Grid"
  | 1 => .object "SquareSymbols$Grid"
  | 2 => .array .long
  | 3 => .int
  | 4 => .int
  | 5 => .int
  | _ => .int
theorem n_Frame : ∀ a, a < 7 → ∀ b, b < 7 → a ≠ b → (F_Frame a).2.1 ≠ (F_Frame b).2.1 := by decide +kernel
theorem t_Frame_ok : ∀ k, k < 7 → parseFieldDescriptor (F_Frame k).2.2.1 = some (t_Frame k) := by decide +kernel
theorem i_Frame : ∀ w ∈ u_ws R_Frame F_Frame 7, w ∈ lw_g := lw_lay (by decide +kernel)
abbrev R_Penalty : String := "SquareSymbols$Penalty"
def F_Penalty : u_T := fun k => match k with
  | _ => ("SquareSymbols$Penalty", "ahead", "[J", true)
def t_Penalty : Nat → FieldType := fun k => match k with
  | _ => .array .long
theorem n_Penalty : ∀ a, a < 1 → ∀ b, b < 1 → a ≠ b → (F_Penalty a).2.1 ≠ (F_Penalty b).2.1 := by decide +kernel
theorem t_Penalty_ok : ∀ k, k < 1 → parseFieldDescriptor (F_Penalty k).2.2.1 = some (t_Penalty k) := by decide +kernel
theorem i_Penalty : ∀ w ∈ u_ws R_Penalty F_Penalty 1, w ∈ lw_g := lw_lay (by decide +kernel)
abbrev R_Sq : String := "SquareSymbols"
def F_Sq : u_T := fun k => match k with
  | 0 => ("SquareSymbols", "data", "LSquareSymbols$Data;", true)
  | 1 => ("SquareSymbols", "division", "LSquareSymbols$Division;", true)
  | 2 => ("SquareSymbols", "codewords", "LSquareSymbols$Codewords;", true)
  | 3 => ("SquareSymbols", "mender", "LSquareSymbols$Mender;", true)
  | 4 => ("SquareSymbols", "parser", "LSquareSymbols$Parser;", true)
  | 5 => ("SquareSymbols", "symbol", "LSquareSymbols$Grid;", true)
  | 6 => ("SquareSymbols", "frame", "LSquareSymbols$Frame;", true)
  | 7 => ("SquareSymbols", "judge", "LSquareSymbols$Penalty;", true)
  | 8 => ("SquareSymbols", "isMade", "Z", false)
  | 9 => ("SquareSymbols", "made", "[I", true)
  | 10 => ("SquareSymbols", "madeSegments", "[I", true)
  | 11 => ("SquareSymbols", "isRead", "Z", false)
  | 12 => ("SquareSymbols", "found", "[I", true)
  | _ => ("SquareSymbols", "lastFault", "I", false)
def t_Sq : Nat → FieldType := fun k => match k with
  | 0 => .object "SquareSymbols$Data"
  | 1 => .object "SquareSymbols$Division"
  | 2 => .object "SquareSymbols$Codewords"
  | 3 => .object "SquareSymbols$Mender"
  | 4 => .object "SquareSymbols$Parser"
  | 5 => .object "SquareSymbols$Grid"
  | 6 => .object "SquareSymbols$Frame"
  | 7 => .object "SquareSymbols$Penalty"
  | 8 => .boolean
  | 9 => .array .int
  | 10 => .array .int
  | 11 => .boolean
  | 12 => .array .int
  | _ => .int
theorem n_Sq : ∀ a, a < 14 → ∀ b, b < 14 → a ≠ b → (F_Sq a).2.1 ≠ (F_Sq b).2.1 := by decide +kernel
theorem t_Sq_ok : ∀ k, k < 14 → parseFieldDescriptor (F_Sq k).2.2.1 = some (t_Sq k) := by decide +kernel
theorem i_Sq : ∀ w ∈ u_ws R_Sq F_Sq 14, w ∈ lw_g := lw_lay (by decide +kernel)
abbrev R_Md : String := "SquareSymbolsModel"
def F_Md : u_T := fun k => match k with
  | 0 => ("SquareSymbolsModel", "thrown", "I", false)
  | 1 => ("SquareSymbolsModel", "checkBytes", "[I", true)
  | 2 => ("SquareSymbolsModel", "blocks", "[I", true)
  | 3 => ("SquareSymbolsModel", "data", "[I", true)
  | 4 => ("SquareSymbolsModel", "length", "I", false)
  | 5 => ("SquareSymbolsModel", "modules", "[I", true)
  | 6 => ("SquareSymbolsModel", "fixed", "[I", true)
  | 7 => ("SquareSymbolsModel", "version", "I", false)
  | 8 => ("SquareSymbolsModel", "side", "I", false)
  | 9 => ("SquareSymbolsModel", "made", "Z", false)
  | 10 => ("SquareSymbolsModel", "tells", "[I", true)
  | 11 => ("SquareSymbolsModel", "segmentModes", "[I", true)
  | 12 => ("SquareSymbolsModel", "segmentLengths", "[I", true)
  | 13 => ("SquareSymbolsModel", "segments", "I", false)
  | 14 => ("SquareSymbolsModel", "modes", "[I", true)
  | 15 => ("SquareSymbolsModel", "takes", "[I", true)
  | 16 => ("SquareSymbolsModel", "bits", "I", false)
  | 17 => ("SquareSymbolsModel", "bytes", "[I", true)
  | 18 => ("SquareSymbolsModel", "words", "[I", true)
  | 19 => ("SquareSymbolsModel", "filled", "I", false)
  | 20 => ("SquareSymbolsModel", "block", "[I", true)
  | 21 => ("SquareSymbolsModel", "tried", "[I", true)
  | 22 => ("SquareSymbolsModel", "values", "[I", true)
  | 23 => ("SquareSymbolsModel", "system", "[I", true)
  | 24 => ("SquareSymbolsModel", "solved", "[I", true)
  | 25 => ("SquareSymbolsModel", "places", "[I", true)
  | 26 => ("SquareSymbolsModel", "generator", "[I", true)
  | 27 => ("SquareSymbolsModel", "readBytes", "[I", true)
  | 28 => ("SquareSymbolsModel", "readLength", "I", false)
  | 29 => ("SquareSymbolsModel", "at", "I", false)
  | 30 => ("SquareSymbolsModel", "all", "I", false)
  | 31 => ("SquareSymbolsModel", "fault", "I", false)
  | 32 => ("SquareSymbolsModel", "good", "Z", false)
  | _ => ("SquareSymbolsModel", "readings", "[I", true)
def t_Md : Nat → FieldType := fun k => match k with
  | 0 => .int
  | 1 => .array .int
  | 2 => .array .int
  | 3 => .array .int
  | 4 => .int
  | 5 => .array .int
  | 6 => .array .int
  | 7 => .int
  | 8 => .int
  | 9 => .boolean
  | 10 => .array .int
  | 11 => .array .int
  | 12 => .array .int
  | 13 => .int
  | 14 => .array .int
  | 15 => .array .int
  | 16 => .int
  | 17 => .array .int
  | 18 => .array .int
  | 19 => .int
  | 20 => .array .int
  | 21 => .array .int
  | 22 => .array .int
  | 23 => .array .int
  | 24 => .array .int
  | 25 => .array .int
  | 26 => .array .int
  | 27 => .array .int
  | 28 => .int
  | 29 => .int
  | 30 => .int
  | 31 => .int
  | 32 => .boolean
  | _ => .array .int
theorem n_Md : ∀ a, a < 34 → ∀ b, b < 34 → a ≠ b → (F_Md a).2.1 ≠ (F_Md b).2.1 := by decide +kernel
theorem t_Md_ok : ∀ k, k < 34 → parseFieldDescriptor (F_Md k).2.2.1 = some (t_Md k) := by decide +kernel
theorem i_Md : ∀ w ∈ u_ws R_Md F_Md 34, w ∈ lw_g := lw_lay (by decide +kernel)
abbrev cl_All : List vw_C := [(R_Data, F_Data, 2), (R_Division, F_Division, 9), (R_Field, F_Field, 2), (R_Codewords, F_Codewords, 14), (R_Mender, F_Mender, 8), (R_Parser, F_Parser, 6), (R_Grid, F_Grid, 2), (R_Frame, F_Frame, 7), (R_Penalty, F_Penalty, 1), (R_Sq, F_Sq, 14), (R_Md, F_Md, 34)]
