/-! names by program: classes, their fields, tables of constants -/
def F_CH : u_T := fun k => match k with
  | 0 => ("ChessHouse", "tape", "[B", true)
  | 1 => ("ChessHouse", "answers", "LChessHouse$Bytes;", true)
  | 2 => ("ChessHouse", "words", "LChessHouse$Words;", true)
  | 3 => ("ChessHouse", "signs", "LChessHouse$Signs;", true)
  | 4 => ("ChessHouse", "reader", "LChessHouse$GameReader;", true)
  | 5 => ("ChessHouse", "writer", "LChessHouse$GameWriter;", true)
  | 6 => ("ChessHouse", "search", "LChessHouse$Search;", true)
  | 7 => ("ChessHouse", "problems", "LChessHouse$Problems;", true)
  | 8 => ("ChessHouse", "endings", "LChessHouse$Endings;", true)
  | 9 => ("ChessHouse", "list", "[I", true)
  | 10 => ("ChessHouse", "game", "LChessHouse$Game;", false)
  | 11 => ("ChessHouse", "spare", "LChessHouse$Game;", false)
  | 12 => ("ChessHouse", "fed", "I", false)
  | 13 => ("ChessHouse", "next", "I", false)
  | _ => ("ChessHouse", "faults", "I", false)
def F_BY : u_T := fun k => match k with
  | 0 => ("ChessHouse$Bytes", "data", "[B", true)
  | _ => ("ChessHouse$Bytes", "length", "I", false)
def F_WO : u_T := fun k => match k with
  | 0 => ("ChessHouse$Words", "begin", "[I", true)
  | 1 => ("ChessHouse$Words", "count", "I", false)
  | 2 => ("ChessHouse$Words", "stop", "I", false)
  | 3 => ("ChessHouse$Words", "tape", "[B", false)
  | _ => ("ChessHouse$Words", "start", "I", false)
def F_SI : u_T := fun k => match k with
  | 0 => ("ChessHouse$Signs", "list", "[I", true)
  | 1 => ("ChessHouse$Signs", "row", "[I", true)
  | 2 => ("ChessHouse$Signs", "length", "I", false)
  | 3 => ("ChessHouse$Signs", "kind", "I", false)
  | 4 => ("ChessHouse$Signs", "file", "I", false)
  | 5 => ("ChessHouse$Signs", "rank", "I", false)
  | 6 => ("ChessHouse$Signs", "to", "I", false)
  | 7 => ("ChessHouse$Signs", "become", "I", false)
  | 8 => ("ChessHouse$Signs", "castling", "I", false)
  | 9 => ("ChessHouse$Signs", "takes", "Z", false)
  | _ => ("ChessHouse$Signs", "check", "I", false)
def F_GR : u_T := fun k => match k with
  | 0 => ("ChessHouse$GameReader", "place", "I", false)
  | 1 => ("ChessHouse$GameReader", "signs", "LChessHouse$Signs;", true)
  | 2 => ("ChessHouse$GameReader", "outer", "[I", true)
  | 3 => ("ChessHouse$GameReader", "value", "[B", true)
  | 4 => ("ChessHouse$GameReader", "game", "LChessHouse$Game;", false)
  | 5 => ("ChessHouse$GameReader", "text", "[B", false)
  | 6 => ("ChessHouse$GameReader", "begin", "I", false)
  | 7 => ("ChessHouse$GameReader", "stop", "I", false)
  | 8 => ("ChessHouse$GameReader", "at", "I", false)
  | 9 => ("ChessHouse$GameReader", "fault", "I", false)
  | 10 => ("ChessHouse$GameReader", "stage", "I", false)
  | _ => ("ChessHouse$GameReader", "open", "I", false)
def F_GW : u_T := fun k => match k with
  | 0 => ("ChessHouse$GameWriter", "text", "LChessHouse$Bytes;", true)
  | 1 => ("ChessHouse$GameWriter", "signs", "LChessHouse$Signs;", true)
  | _ => ("ChessHouse$GameWriter", "game", "LChessHouse$Game;", false)
def F_SE : u_T := fun k => match k with
  | 0 => ("ChessHouse$Search", "bestMove", "I", false)
  | 1 => ("ChessHouse$Search", "list", "[I", true)
  | 2 => ("ChessHouse$Search", "made", "[I", true)
  | 3 => ("ChessHouse$Search", "undone", "[J", true)
  | 4 => ("ChessHouse$Search", "depth", "I", false)
  | 5 => ("ChessHouse$Search", "board", "LChessHouse$Board;", false)
  | _ => ("ChessHouse$Search", "calm", "Z", false)
def F_PR : u_T := fun k => match k with
  | 0 => ("ChessHouse$Problems", "self", "Z", false)
  | 1 => ("ChessHouse$Problems", "wanted", "I", false)
  | 2 => ("ChessHouse$Problems", "lines", "I", false)
  | 3 => ("ChessHouse$Problems", "found", "Z", false)
  | 4 => ("ChessHouse$Problems", "chain", "[I", true)
  | 5 => ("ChessHouse$Problems", "undo", "[J", true)
  | 6 => ("ChessHouse$Problems", "list", "[I", true)
  | 7 => ("ChessHouse$Problems", "board", "LChessHouse$Board;", false)
  | 8 => ("ChessHouse$Problems", "mate", "Z", false)
  | _ => ("ChessHouse$Problems", "asked", "I", false)
def F_EN : u_T := fun k => match k with
  | 0 => ("ChessHouse$Endings", "distance", "I", false)
  | 1 => ("ChessHouse$Endings", "bestMove", "I", false)
  | 2 => ("ChessHouse$Endings", "list", "[I", true)
  | 3 => ("ChessHouse$Endings", "queens", "[B", false)
  | 4 => ("ChessHouse$Endings", "rooks", "[B", false)
  | 5 => ("ChessHouse$Endings", "pawns", "[B", false)
  | 6 => ("ChessHouse$Endings", "table", "[B", false)
  | 7 => ("ChessHouse$Endings", "queue", "[I", false)
  | 8 => ("ChessHouse$Endings", "tail", "I", false)
  | _ => ("ChessHouse$Endings", "kind", "I", false)
def F_GA : u_T := fun k => match k with
  | 0 => ("ChessHouse$Game", "board", "LChessHouse$Board;", true)
  | 1 => ("ChessHouse$Game", "nodes", "I", false)
  | 2 => ("ChessHouse$Game", "here", "I", false)
  | 3 => ("ChessHouse$Game", "parent", "[I", true)
  | 4 => ("ChessHouse$Game", "move", "[I", true)
  | 5 => ("ChessHouse$Game", "first", "[I", true)
  | 6 => ("ChessHouse$Game", "after", "[I", true)
  | 7 => ("ChessHouse$Game", "undo", "[J", true)
  | 8 => ("ChessHouse$Game", "marks", "[I", true)
  | 9 => ("ChessHouse$Game", "marked", "[I", true)
  | 10 => ("ChessHouse$Game", "remarks", "[B", true)
  | 11 => ("ChessHouse$Game", "remarkLength", "[I", true)
  | 12 => ("ChessHouse$Game", "path", "[I", true)
  | 13 => ("ChessHouse$Game", "tags", "I", false)
  | 14 => ("ChessHouse$Game", "names", "[B", true)
  | 15 => ("ChessHouse$Game", "nameLength", "[I", true)
  | 16 => ("ChessHouse$Game", "values", "[B", true)
  | 17 => ("ChessHouse$Game", "valueLength", "[I", true)
  | _ => ("ChessHouse$Game", "result", "I", false)
def F_BO : u_T := fun k => match k with
  | 0 => ("ChessHouse$Board", "men", "[I", true)
  | 1 => ("ChessHouse$Board", "king", "[I", true)
  | 2 => ("ChessHouse$Board", "side", "I", false)
  | 3 => ("ChessHouse$Board", "rights", "I", false)
  | 4 => ("ChessHouse$Board", "passed", "I", false)
  | 5 => ("ChessHouse$Board", "clock", "I", false)
  | 6 => ("ChessHouse$Board", "number", "I", false)
  | 7 => ("ChessHouse$Board", "packed", "[J", true)
  | 8 => ("ChessHouse$Board", "worth", "[I", true)
  | 9 => ("ChessHouse$Board", "count", "[I", true)
  | 10 => ("ChessHouse$Board", "shades", "[I", true)
  | 11 => ("ChessHouse$Board", "worthAt", "[I", true)
  | 12 => ("ChessHouse$Board", "reach", "[I", true)
  | 13 => ("ChessHouse$Board", "hops", "[I", true)
  | 14 => ("ChessHouse$Board", "past", "[J", true)
  | 15 => ("ChessHouse$Board", "pastRest", "[I", true)
  | _ => ("ChessHouse$Board", "plies", "I", false)
def F_MM : u_T := fun k => match k with
  | 0 => ("ChessHouseModel", "thrown", "I", false)
  | 1 => ("ChessHouseModel", "taped", "I", false)
  | 2 => ("ChessHouseModel", "tape", "[B", true)
  | 3 => ("ChessHouseModel", "told", "I", false)
  | 4 => ("ChessHouseModel", "out", "[B", true)
  | 5 => ("ChessHouseModel", "texts", "LChessHouseModel$Texts;", true)
  | 6 => ("ChessHouseModel", "board", "LChessHouseModel$Board;", true)
  | 7 => ("ChessHouseModel", "endings", "LChessHouseModel$Ends;", false)
  | 8 => ("ChessHouseModel", "from", "I", false)
  | 9 => ("ChessHouseModel", "to", "I", false)
  | 10 => ("ChessHouseModel", "next", "I", false)
  | 11 => ("ChessHouseModel", "all", "I", false)
  | 12 => ("ChessHouseModel", "faults", "I", false)
  | 13 => ("ChessHouseModel", "words", "I", false)
  | 14 => ("ChessHouseModel", "wordFrom", "[I", true)
  | 15 => ("ChessHouseModel", "wordTo", "[I", true)
  | 16 => ("ChessHouseModel", "right", "Z", false)
  | 17 => ("ChessHouseModel", "path", "[I", true)
  | _ => ("ChessHouseModel", "line", "[C", true)
def F_MT : u_T := fun k => match k with
  | 0 => ("ChessHouseModel$Texts", "thrown", "I", false)
  | 1 => ("ChessHouseModel$Texts", "typed", "I", false)
  | 2 => ("ChessHouseModel$Texts", "text", "[C", true)
  | 3 => ("ChessHouseModel$Texts", "told", "I", false)
  | 4 => ("ChessHouseModel$Texts", "out", "[C", true)
  | 5 => ("ChessHouseModel$Texts", "game", "I", false)
  | 6 => ("ChessHouseModel$Texts", "here", "I", false)
  | 7 => ("ChessHouseModel$Texts", "count", "[I", true)
  | 8 => ("ChessHouseModel$Texts", "parent", "[I", true)
  | 9 => ("ChessHouseModel$Texts", "moveOf", "[I", true)
  | 10 => ("ChessHouseModel$Texts", "child", "[I", true)
  | 11 => ("ChessHouseModel$Texts", "next", "[I", true)
  | 12 => ("ChessHouseModel$Texts", "markCount", "[I", true)
  | 13 => ("ChessHouseModel$Texts", "marks", "[I", true)
  | 14 => ("ChessHouseModel$Texts", "remarkSize", "[I", true)
  | 15 => ("ChessHouseModel$Texts", "remarks", "[C", true)
  | 16 => ("ChessHouseModel$Texts", "startMen", "[I", true)
  | 17 => ("ChessHouseModel$Texts", "startRest", "[I", true)
  | 18 => ("ChessHouseModel$Texts", "tagCount", "[I", true)
  | 19 => ("ChessHouseModel$Texts", "nameSize", "[I", true)
  | 20 => ("ChessHouseModel$Texts", "names", "[C", true)
  | 21 => ("ChessHouseModel$Texts", "valueSize", "[I", true)
  | 22 => ("ChessHouseModel$Texts", "values", "[C", true)
  | 23 => ("ChessHouseModel$Texts", "results", "[I", true)
  | 24 => ("ChessHouseModel$Texts", "men", "[I", true)
  | 25 => ("ChessHouseModel$Texts", "side", "I", false)
  | 26 => ("ChessHouseModel$Texts", "rights", "I", false)
  | 27 => ("ChessHouseModel$Texts", "passed", "I", false)
  | 28 => ("ChessHouseModel$Texts", "clock", "I", false)
  | 29 => ("ChessHouseModel$Texts", "number", "I", false)
  | 30 => ("ChessHouseModel$Texts", "keptMen", "[I", true)
  | 31 => ("ChessHouseModel$Texts", "keptRest", "[I", true)
  | 32 => ("ChessHouseModel$Texts", "list", "[I", true)
  | 33 => ("ChessHouseModel$Texts", "moves", "I", false)
  | 34 => ("ChessHouseModel$Texts", "path", "[I", true)
  | 35 => ("ChessHouseModel$Texts", "spelled", "[C", true)
  | 36 => ("ChessHouseModel$Texts", "spelledSize", "I", false)
  | 37 => ("ChessHouseModel$Texts", "at", "I", false)
  | 38 => ("ChessHouseModel$Texts", "valueAt", "I", false)
  | _ => ("ChessHouseModel$Texts", "valueEnd", "I", false)
def F_MB : u_T := fun k => match k with
  | 0 => ("ChessHouseModel$Board", "typed", "I", false)
  | 1 => ("ChessHouseModel$Board", "text", "[C", true)
  | 2 => ("ChessHouseModel$Board", "men", "[I", true)
  | 3 => ("ChessHouseModel$Board", "side", "I", false)
  | 4 => ("ChessHouseModel$Board", "rights", "I", false)
  | 5 => ("ChessHouseModel$Board", "passed", "I", false)
  | 6 => ("ChessHouseModel$Board", "clock", "I", false)
  | 7 => ("ChessHouseModel$Board", "number", "I", false)
  | 8 => ("ChessHouseModel$Board", "plies", "I", false)
  | 9 => ("ChessHouseModel$Board", "pastMen", "[I", true)
  | 10 => ("ChessHouseModel$Board", "pastSide", "[I", true)
  | 11 => ("ChessHouseModel$Board", "pastRights", "[I", true)
  | 12 => ("ChessHouseModel$Board", "pastPassed", "[I", true)
  | 13 => ("ChessHouseModel$Board", "pastClock", "[I", true)
  | 14 => ("ChessHouseModel$Board", "pastNumber", "[I", true)
  | 15 => ("ChessHouseModel$Board", "undoMan", "[I", true)
  | 16 => ("ChessHouseModel$Board", "undoTaken", "[I", true)
  | 17 => ("ChessHouseModel$Board", "undoWhere", "[I", true)
  | 18 => ("ChessHouseModel$Board", "undoRights", "[I", true)
  | 19 => ("ChessHouseModel$Board", "undoPassed", "[I", true)
  | 20 => ("ChessHouseModel$Board", "undoClock", "[I", true)
  | 21 => ("ChessHouseModel$Board", "lists", "[I", true)
  | 22 => ("ChessHouseModel$Board", "counts", "[I", true)
  | 23 => ("ChessHouseModel$Board", "calm", "Z", false)
  | 24 => ("ChessHouseModel$Board", "depth", "I", false)
  | 25 => ("ChessHouseModel$Board", "best", "I", false)
  | 26 => ("ChessHouseModel$Board", "bestValue", "I", false)
  | 27 => ("ChessHouseModel$Board", "lineLength", "I", false)
  | 28 => ("ChessHouseModel$Board", "bestLine", "[I", true)
  | 29 => ("ChessHouseModel$Board", "keyCount", "I", false)
  | 30 => ("ChessHouseModel$Board", "keyMoves", "[I", true)
  | 31 => ("ChessHouseModel$Board", "before", "I", false)
  | 32 => ("ChessHouseModel$Board", "met", "Z", false)
  | 33 => ("ChessHouseModel$Board", "helpLine", "[I", true)
  | 34 => ("ChessHouseModel$Board", "tried", "[I", true)
  | 35 => ("ChessHouseModel$Board", "out", "[C", false)
  | _ => ("ChessHouseModel$Board", "told", "I", false)
def F_ME : u_T := fun k => match k with
  | 0 => ("ChessHouseModel$Ends", "thrown", "I", false)
  | 1 => ("ChessHouseModel$Ends", "files", "I", true)
  | 2 => ("ChessHouseModel$Ends", "ranks", "I", true)
  | 3 => ("ChessHouseModel$Ends", "table", "[J", true)
  | 4 => ("ChessHouseModel$Ends", "built", "[Z", true)
  | 5 => ("ChessHouseModel$Ends", "greatest", "[I", true)
  | 6 => ("ChessHouseModel$Ends", "there", "Z", false)
  | 7 => ("ChessHouseModel$Ends", "kind", "I", false)
  | 8 => ("ChessHouseModel$Ends", "white", "I", false)
  | 9 => ("ChessHouseModel$Ends", "man", "I", false)
  | 10 => ("ChessHouseModel$Ends", "black", "I", false)
  | 11 => ("ChessHouseModel$Ends", "side", "I", false)
  | 12 => ("ChessHouseModel$Ends", "list", "[I", true)
  | _ => ("ChessHouseModel$Ends", "many", "I", false)
def jcl : List vw_C := [("ChessHouse", F_CH, 15), ("ChessHouse$Bytes", F_BY, 2), ("ChessHouse$Words", F_WO, 5), ("ChessHouse$Signs", F_SI, 11), ("ChessHouse$GameReader", F_GR, 12), ("ChessHouse$GameWriter", F_GW, 3), ("ChessHouse$Search", F_SE, 7), ("ChessHouse$Problems", F_PR, 10), ("ChessHouse$Endings", F_EN, 10), ("ChessHouse$Game", F_GA, 19), ("ChessHouse$Board", F_BO, 17), ("ChessHouseModel", F_MM, 19), ("ChessHouseModel$Texts", F_MT, 40), ("ChessHouseModel$Board", F_MB, 37), ("ChessHouseModel$Ends", F_ME, 14)]
def tv_0 : List Int32 := [8, -8, 1, -1, 9, 7, -7, -9]
def tv_1 : List Int32 := [4, 2, 3, 5, 6, 3, 2, 4]
def tv_2 : List Int32 := [0, 1, 2, 3, 4, 5, 6, 7, 8, 9, 10, 11, 12, 13, 14, 15, 16, 17, 18, 19, 20, 21, 22, 23, 24, 25, 26, 27]
def tv_3 : List Int32 := [70, 69, 78]
def tv_4 : List Int32 := [13, 15, 15, 15, 12, 15, 15, 14, 15, 15, 15, 15, 15, 15, 15, 15, 15, 15, 15, 15, 15, 15, 15, 15, 15, 15, 15, 15, 15, 15, 15, 15, 15, 15, 15, 15, 15, 15, 15, 15, 15, 15, 15, 15, 15, 15, 15, 15, 15, 15, 15, 15, 15, 15, 15, 15, 7, 15, 15, 15, 3, 15, 15, 11]
def tv_5 : List Int32 := [82, 101, 115, 117, 108, 116]
def tv_6 : List Int32 := [0, 4, 8, 13, 14, 27, 8, 0]
def tv_7 : List Int32 := [0, 1, 9, 2, 10, 18, 3, 11, 19, 27]
def tv_8 : List Int32 := [8, -8, 1, -1, 9, 7, -7, -9]
def jtb : jTb := fun j => match j with
  | 0 => some ("ChessHouse$Board", "STEPS", "[I", .int, 8, fun i => tv_0.getD i 0)
  | 1 => some ("ChessHouse$Board", "FIRST_RANK", "[I", .int, 8, fun i => tv_1.getD i 0)
  | 2 => some ("ChessHouse$1", "$SwitchMap$ChessHouse$Command", "[I", .int, 28, fun i => tv_2.getD i 0)
  | 3 => some ("ChessHouse$Game", "FEN", "[B", .byte, 3, fun i => tv_3.getD i 0)
  | 4 => some ("ChessHouse$Board", "KEPT", "[I", .int, 64, fun i => tv_4.getD i 0)
  | 5 => some ("ChessHouse$Game", "RESULT", "[B", .byte, 6, fun i => tv_5.getD i 0)
  | 6 => some ("ChessHouse$Board", "FORCES", "[I", .int, 8, fun i => tv_6.getD i 0)
  | 7 => some ("ChessHouse$Endings", "CORNER", "[I", .int, 10, fun i => tv_7.getD i 0)
  | 8 => some ("ChessHouse$Endings", "STEPS", "[I", .int, 8, fun i => tv_8.getD i 0)
  | _ => none
/-- its words stand in the tables at these places -/
theorem jcl_of {Ts : List Jvm.Cond} {q : vw_C} (is : List Nat) (h : is.map (fun i => Ts[i]?) = (u_ws q.1 q.2.1 q.2.2).map some) (hg : (u_ws q.1 q.2.1 q.2.2).all jgood = true) : ∀ w ∈ u_ws q.1 q.2.1 q.2.2, w ∈ jTA Ts := by
  intro w hw
  have h1 : some w ∈ is.map (fun i => Ts[i]?) := by rw [h]; exact List.mem_map.mpr ⟨w, hw, rfl⟩
  obtain ⟨i, -, hi⟩ := List.mem_map.mp h1
  exact List.mem_filter.mpr ⟨List.mem_of_getElem? hi, List.all_eq_true.mp hg w hw⟩
theorem cw_CH : ∀ w ∈ u_ws "ChessHouse" F_CH 15, w ∈ jTA lw_tbl := jcl_of (q := ("ChessHouse", F_CH, 15)) [828, 830, 832, 834, 836, 838, 840, 842, 844, 846, 848, 850, 852, 854, 856] (by decide +kernel) (by decide +kernel)
theorem cn_CH : ∀ a, a < 15 → ∀ b, b < 15 → a ≠ b → (F_CH a).2.1 ≠ (F_CH b).2.1 := by decide +kernel
theorem ct_CH : ∀ k, k < 15 → parseFieldDescriptor (F_CH k).2.2.1 = some ((parseFieldDescriptor (F_CH k).2.2.1).getD .int) := by decide +kernel
theorem cw_BY : ∀ w ∈ u_ws "ChessHouse$Bytes" F_BY 2, w ∈ jTA lw_tbl := jcl_of (q := ("ChessHouse$Bytes", F_BY, 2)) [356, 358] (by decide +kernel) (by decide +kernel)
theorem cn_BY : ∀ a, a < 2 → ∀ b, b < 2 → a ≠ b → (F_BY a).2.1 ≠ (F_BY b).2.1 := by decide +kernel
theorem ct_BY : ∀ k, k < 2 → parseFieldDescriptor (F_BY k).2.2.1 = some ((parseFieldDescriptor (F_BY k).2.2.1).getD .int) := by decide +kernel
theorem cw_WO : ∀ w ∈ u_ws "ChessHouse$Words" F_WO 5, w ∈ jTA lw_tbl := jcl_of (q := ("ChessHouse$Words", F_WO, 5)) [376, 378, 380, 382, 384] (by decide +kernel) (by decide +kernel)
theorem cn_WO : ∀ a, a < 5 → ∀ b, b < 5 → a ≠ b → (F_WO a).2.1 ≠ (F_WO b).2.1 := by decide +kernel
theorem ct_WO : ∀ k, k < 5 → parseFieldDescriptor (F_WO k).2.2.1 = some ((parseFieldDescriptor (F_WO k).2.2.1).getD .int) := by decide +kernel
theorem cw_SI : ∀ w ∈ u_ws "ChessHouse$Signs" F_SI 11, w ∈ jTA lw_tbl := jcl_of (q := ("ChessHouse$Signs", F_SI, 11)) [405, 407, 409, 411, 413, 415, 417, 419, 421, 423, 425] (by decide +kernel) (by decide +kernel)
theorem cn_SI : ∀ a, a < 11 → ∀ b, b < 11 → a ≠ b → (F_SI a).2.1 ≠ (F_SI b).2.1 := by decide +kernel
theorem ct_SI : ∀ k, k < 11 → parseFieldDescriptor (F_SI k).2.2.1 = some ((parseFieldDescriptor (F_SI k).2.2.1).getD .int) := by decide +kernel
theorem cw_GR : ∀ w ∈ u_ws "ChessHouse$GameReader" F_GR 12, w ∈ jTA lw_tbl := jcl_of (q := ("ChessHouse$GameReader", F_GR, 12)) [449, 451, 453, 455, 457, 459, 461, 463, 465, 467, 469, 471] (by decide +kernel) (by decide +kernel)
theorem cn_GR : ∀ a, a < 12 → ∀ b, b < 12 → a ≠ b → (F_GR a).2.1 ≠ (F_GR b).2.1 := by decide +kernel
theorem ct_GR : ∀ k, k < 12 → parseFieldDescriptor (F_GR k).2.2.1 = some ((parseFieldDescriptor (F_GR k).2.2.1).getD .int) := by decide +kernel
theorem cw_GW : ∀ w ∈ u_ws "ChessHouse$GameWriter" F_GW 3, w ∈ jTA lw_tbl := jcl_of (q := ("ChessHouse$GameWriter", F_GW, 3)) [488, 490, 492] (by decide +kernel) (by decide +kernel)
theorem cn_GW : ∀ a, a < 3 → ∀ b, b < 3 → a ≠ b → (F_GW a).2.1 ≠ (F_GW b).2.1 := by decide +kernel
theorem ct_GW : ∀ k, k < 3 → parseFieldDescriptor (F_GW k).2.2.1 = some ((parseFieldDescriptor (F_GW k).2.2.1).getD .int) := by decide +kernel
theorem cw_SE : ∀ w ∈ u_ws "ChessHouse$Search" F_SE 7, w ∈ jTA lw_tbl := jcl_of (q := ("ChessHouse$Search", F_SE, 7)) [509, 511, 513, 515, 517, 519, 521] (by decide +kernel) (by decide +kernel)
theorem cn_SE : ∀ a, a < 7 → ∀ b, b < 7 → a ≠ b → (F_SE a).2.1 ≠ (F_SE b).2.1 := by decide +kernel
theorem ct_SE : ∀ k, k < 7 → parseFieldDescriptor (F_SE k).2.2.1 = some ((parseFieldDescriptor (F_SE k).2.2.1).getD .int) := by decide +kernel
theorem cw_PR : ∀ w ∈ u_ws "ChessHouse$Problems" F_PR 10, w ∈ jTA lw_tbl := jcl_of (q := ("ChessHouse$Problems", F_PR, 10)) [547, 549, 551, 553, 555, 557, 559, 561, 563, 565] (by decide +kernel) (by decide +kernel)
theorem cn_PR : ∀ a, a < 10 → ∀ b, b < 10 → a ≠ b → (F_PR a).2.1 ≠ (F_PR b).2.1 := by decide +kernel
theorem ct_PR : ∀ k, k < 10 → parseFieldDescriptor (F_PR k).2.2.1 = some ((parseFieldDescriptor (F_PR k).2.2.1).getD .int) := by decide +kernel
theorem cw_EN : ∀ w ∈ u_ws "ChessHouse$Endings" F_EN 10, w ∈ jTA lw_tbl := jcl_of (q := ("ChessHouse$Endings", F_EN, 10)) [586, 588, 590, 592, 594, 596, 598, 600, 602, 604] (by decide +kernel) (by decide +kernel)
theorem cn_EN : ∀ a, a < 10 → ∀ b, b < 10 → a ≠ b → (F_EN a).2.1 ≠ (F_EN b).2.1 := by decide +kernel
theorem ct_EN : ∀ k, k < 10 → parseFieldDescriptor (F_EN k).2.2.1 = some ((parseFieldDescriptor (F_EN k).2.2.1).getD .int) := by decide +kernel
theorem cw_GA : ∀ w ∈ u_ws "ChessHouse$Game" F_GA 19, w ∈ jTA lw_tbl := jcl_of (q := ("ChessHouse$Game", F_GA, 19)) [774, 776, 778, 780, 782, 784, 786, 788, 790, 792, 794, 796, 798, 800, 802, 804, 806, 808, 810] (by decide +kernel) (by decide +kernel)
theorem cn_GA : ∀ a, a < 19 → ∀ b, b < 19 → a ≠ b → (F_GA a).2.1 ≠ (F_GA b).2.1 := by decide +kernel
theorem ct_GA : ∀ k, k < 19 → parseFieldDescriptor (F_GA k).2.2.1 = some ((parseFieldDescriptor (F_GA k).2.2.1).getD .int) := by decide +kernel
theorem cw_BO : ∀ w ∈ u_ws "ChessHouse$Board" F_BO 17, w ∈ jTA lw_tbl := jcl_of (q := ("ChessHouse$Board", F_BO, 17)) [686, 688, 690, 692, 694, 696, 698, 700, 702, 704, 706, 708, 710, 712, 714, 716, 718] (by decide +kernel) (by decide +kernel)
theorem cn_BO : ∀ a, a < 17 → ∀ b, b < 17 → a ≠ b → (F_BO a).2.1 ≠ (F_BO b).2.1 := by decide +kernel
theorem ct_BO : ∀ k, k < 17 → parseFieldDescriptor (F_BO k).2.2.1 = some ((parseFieldDescriptor (F_BO k).2.2.1).getD .int) := by decide +kernel
theorem cw_MM : ∀ w ∈ u_ws "ChessHouseModel" F_MM 19, w ∈ jTA lw_tbl := jcl_of (q := ("ChessHouseModel", F_MM, 19)) [2321, 2323, 2325, 2327, 2329, 2331, 2333, 2335, 2337, 2339, 2341, 2343, 2345, 2347, 2349, 2351, 2353, 2355, 2357] (by decide +kernel) (by decide +kernel)
theorem cn_MM : ∀ a, a < 19 → ∀ b, b < 19 → a ≠ b → (F_MM a).2.1 ≠ (F_MM b).2.1 := by decide +kernel
theorem ct_MM : ∀ k, k < 19 → parseFieldDescriptor (F_MM k).2.2.1 = some ((parseFieldDescriptor (F_MM k).2.2.1).getD .int) := by decide +kernel
theorem cw_MT : ∀ w ∈ u_ws "ChessHouseModel$Texts" F_MT 40, w ∈ jTA lw_tbl := jcl_of (q := ("ChessHouseModel$Texts", F_MT, 40)) [2081, 2083, 2085, 2087, 2089, 2091, 2093, 2095, 2097, 2099, 2101, 2103, 2105, 2107, 2109, 2111, 2113, 2115, 2117, 2119, 2121, 2123, 2125, 2127, 2129, 2131, 2133, 2135, 2137, 2139, 2141, 2143, 2145, 2147, 2149, 2151, 2153, 2155, 2157, 2159] (by decide +kernel) (by decide +kernel)
theorem cn_MT : ∀ a, a < 40 → ∀ b, b < 40 → a ≠ b → (F_MT a).2.1 ≠ (F_MT b).2.1 := by decide +kernel
theorem ct_MT : ∀ k, k < 40 → parseFieldDescriptor (F_MT k).2.2.1 = some ((parseFieldDescriptor (F_MT k).2.2.1).getD .int) := by decide +kernel
theorem cw_MB : ∀ w ∈ u_ws "ChessHouseModel$Board" F_MB 37, w ∈ jTA lw_tbl := jcl_of (q := ("ChessHouseModel$Board", F_MB, 37)) [2226, 2228, 2230, 2232, 2234, 2236, 2238, 2240, 2242, 2244, 2246, 2248, 2250, 2252, 2254, 2256, 2258, 2260, 2262, 2264, 2266, 2268, 2270, 2272, 2274, 2276, 2278, 2280, 2282, 2284, 2286, 2288, 2290, 2292, 2294, 2296, 2298] (by decide +kernel) (by decide +kernel)
theorem cn_MB : ∀ a, a < 37 → ∀ b, b < 37 → a ≠ b → (F_MB a).2.1 ≠ (F_MB b).2.1 := by decide +kernel
theorem ct_MB : ∀ k, k < 37 → parseFieldDescriptor (F_MB k).2.2.1 = some ((parseFieldDescriptor (F_MB k).2.2.1).getD .int) := by decide +kernel
theorem cw_ME : ∀ w ∈ u_ws "ChessHouseModel$Ends" F_ME 14, w ∈ jTA lw_tbl := jcl_of (q := ("ChessHouseModel$Ends", F_ME, 14)) [3067, 3069, 3071, 3073, 3075, 3077, 3079, 3081, 3083, 3085, 3087, 3089, 3091, 3093] (by decide +kernel) (by decide +kernel)
theorem cn_ME : ∀ a, a < 14 → ∀ b, b < 14 → a ≠ b → (F_ME a).2.1 ≠ (F_ME b).2.1 := by decide +kernel
theorem ct_ME : ∀ k, k < 14 → parseFieldDescriptor (F_ME k).2.2.1 = some ((parseFieldDescriptor (F_ME k).2.2.1).getD .int) := by decide +kernel
theorem jC : jCl lw_tbl jcl := by
  intro ci q h
  match ci, h with
  | 0, h => obtain rfl := Option.some.inj h; exact ⟨cw_CH, ⟨_, ct_CH⟩, cn_CH⟩
  | 1, h => obtain rfl := Option.some.inj h; exact ⟨cw_BY, ⟨_, ct_BY⟩, cn_BY⟩
  | 2, h => obtain rfl := Option.some.inj h; exact ⟨cw_WO, ⟨_, ct_WO⟩, cn_WO⟩
  | 3, h => obtain rfl := Option.some.inj h; exact ⟨cw_SI, ⟨_, ct_SI⟩, cn_SI⟩
  | 4, h => obtain rfl := Option.some.inj h; exact ⟨cw_GR, ⟨_, ct_GR⟩, cn_GR⟩
  | 5, h => obtain rfl := Option.some.inj h; exact ⟨cw_GW, ⟨_, ct_GW⟩, cn_GW⟩
  | 6, h => obtain rfl := Option.some.inj h; exact ⟨cw_SE, ⟨_, ct_SE⟩, cn_SE⟩
  | 7, h => obtain rfl := Option.some.inj h; exact ⟨cw_PR, ⟨_, ct_PR⟩, cn_PR⟩
  | 8, h => obtain rfl := Option.some.inj h; exact ⟨cw_EN, ⟨_, ct_EN⟩, cn_EN⟩
  | 9, h => obtain rfl := Option.some.inj h; exact ⟨cw_GA, ⟨_, ct_GA⟩, cn_GA⟩
  | 10, h => obtain rfl := Option.some.inj h; exact ⟨cw_BO, ⟨_, ct_BO⟩, cn_BO⟩
  | 11, h => obtain rfl := Option.some.inj h; exact ⟨cw_MM, ⟨_, ct_MM⟩, cn_MM⟩
  | 12, h => obtain rfl := Option.some.inj h; exact ⟨cw_MT, ⟨_, ct_MT⟩, cn_MT⟩
  | 13, h => obtain rfl := Option.some.inj h; exact ⟨cw_MB, ⟨_, ct_MB⟩, cn_MB⟩
  | 14, h => obtain rfl := Option.some.inj h; exact ⟨cw_ME, ⟨_, ct_ME⟩, cn_ME⟩
  | n + 15, h => exact absurd h (by simp [jcl])

