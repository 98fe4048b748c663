def R_CL : String := "CellLisp"
def R_Text : String := "CellLisp$Text"
def R_Output : String := "CellLisp$Output"
def R_Symbols : String := "CellLisp$Symbols"
def R_State : String := "CellLisp$State"
def R_Room : String := "CellLisp$Room"
def R_Machine : String := "CellLisp$Machine"
def R_Reader : String := "CellLisp$Reader"
def R_Printer : String := "CellLisp$Printer"
def R_Md : String := "CellLispModel"
def R_Value : String := "CellLisp$Value"
def R_Law : String := "CellLispLaw"
def T_CL : u_T := fun k => match k with
  | 0 => (R_CL, "text", "LCellLisp$Text;", true)
  | 1 => (R_CL, "output", "LCellLisp$Output;", true)
  | 2 => (R_CL, "symbols", "LCellLisp$Symbols;", true)
  | 3 => (R_CL, "state", "LCellLisp$State;", true)
  | 4 => (R_CL, "room", "LCellLisp$Room;", true)
  | _ => (R_CL, "machine", "LCellLisp$Machine;", true)
def t_CL : Nat → FieldType := fun k => match k with
  | 0 => .object "CellLisp$Text"
  | 1 => .object "CellLisp$Output"
  | 2 => .object "CellLisp$Symbols"
  | 3 => .object "CellLisp$State"
  | 4 => .object "CellLisp$Room"
  | _ => .object "CellLisp$Machine"
theorem n_CL : ∀ a, a < 6 → ∀ b, b < 6 → a ≠ b → (T_CL a).2.1 ≠ (T_CL b).2.1 := by decide +kernel
theorem t_CL_ok : ∀ k, k < 6 → parseFieldDescriptor (T_CL k).2.2.1 = some (t_CL k) := by decide +kernel
def T_Text : u_T := fun k => match k with
  | 0 => (R_Text, "row", "[C", true)
  | _ => (R_Text, "size", "I", false)
def t_Text : Nat → FieldType := fun k => match k with
  | 0 => .array .char
  | _ => .int
theorem n_Text : ∀ a, a < 2 → ∀ b, b < 2 → a ≠ b → (T_Text a).2.1 ≠ (T_Text b).2.1 := by decide +kernel
theorem t_Text_ok : ∀ k, k < 2 → parseFieldDescriptor (T_Text k).2.2.1 = some (t_Text k) := by decide +kernel
def T_Output : u_T := fun k => match k with
  | 0 => (R_Output, "row", "[C", true)
  | _ => (R_Output, "size", "I", false)
def t_Output : Nat → FieldType := fun k => match k with
  | 0 => .array .char
  | _ => .int
theorem n_Output : ∀ a, a < 2 → ∀ b, b < 2 → a ≠ b → (T_Output a).2.1 ≠ (T_Output b).2.1 := by decide +kernel
theorem t_Output_ok : ∀ k, k < 2 → parseFieldDescriptor (T_Output k).2.2.1 = some (t_Output k) := by decide +kernel
def T_Symbols : u_T := fun k => match k with
  | 0 => (R_Symbols, "names", "[J", true)
  | 1 => (R_Symbols, "globals", "[I", true)
  | _ => (R_Symbols, "known", "I", false)
def t_Symbols : Nat → FieldType := fun k => match k with
  | 0 => .array .long
  | 1 => .array .int
  | _ => .int
theorem n_Symbols : ∀ a, a < 3 → ∀ b, b < 3 → a ≠ b → (T_Symbols a).2.1 ≠ (T_Symbols b).2.1 := by decide +kernel
theorem t_Symbols_ok : ∀ k, k < 3 → parseFieldDescriptor (T_Symbols k).2.2.1 = some (t_Symbols k) := by decide +kernel
def T_State : u_T := fun k => match k with
  | 0 => (R_State, "value", "I", false)
  | 1 => (R_State, "environment", "I", false)
  | 2 => (R_State, "evaluating", "Z", false)
  | 3 => (R_State, "depth", "I", false)
  | 4 => (R_State, "kinds", "[I", true)
  | 5 => (R_State, "as", "[I", true)
  | 6 => (R_State, "bs", "[I", true)
  | _ => (R_State, "cs", "[I", true)
def t_State : Nat → FieldType := fun k => match k with
  | 0 => .int
  | 1 => .int
  | 2 => .boolean
  | 3 => .int
  | 4 => .array .int
  | 5 => .array .int
  | 6 => .array .int
  | _ => .array .int
theorem n_State : ∀ a, a < 8 → ∀ b, b < 8 → a ≠ b → (T_State a).2.1 ≠ (T_State b).2.1 := by decide +kernel
theorem t_State_ok : ∀ k, k < 8 → parseFieldDescriptor (T_State k).2.2.1 = some (t_State k) := by decide +kernel
def T_Room : u_T := fun k => match k with
  | 0 => (R_Room, "size", "I", true)
  | 1 => (R_Room, "slots", "I", true)
  | 2 => (R_Room, "firsts", "[I", true)
  | 3 => (R_Room, "seconds", "[I", true)
  | 4 => (R_Room, "thirds", "[I", true)
  | 5 => (R_Room, "reached", "[Z", true)
  | 6 => (R_Room, "waiting", "[I", true)
  | 7 => (R_Room, "free", "[I", true)
  | 8 => (R_Room, "waitingSize", "I", false)
  | 9 => (R_Room, "freeSize", "I", false)
  | 10 => (R_Room, "used", "I", false)
  | 11 => (R_Room, "state", "LCellLisp$State;", true)
  | _ => (R_Room, "symbols", "LCellLisp$Symbols;", true)
def t_Room : Nat → FieldType := fun k => match k with
  | 0 => .int
  | 1 => .int
  | 2 => .array .int
  | 3 => .array .int
  | 4 => .array .int
  | 5 => .array .boolean
  | 6 => .array .int
  | 7 => .array .int
  | 8 => .int
  | 9 => .int
  | 10 => .int
  | 11 => .object "CellLisp$State"
  | _ => .object "CellLisp$Symbols"
theorem n_Room : ∀ a, a < 13 → ∀ b, b < 13 → a ≠ b → (T_Room a).2.1 ≠ (T_Room b).2.1 := by decide +kernel
theorem t_Room_ok : ∀ k, k < 13 → parseFieldDescriptor (T_Room k).2.2.1 = some (t_Room k) := by decide +kernel
def T_Machine : u_T := fun k => match k with
  | 0 => (R_Machine, "state", "LCellLisp$State;", true)
  | 1 => (R_Machine, "room", "LCellLisp$Room;", true)
  | 2 => (R_Machine, "symbols", "LCellLisp$Symbols;", true)
  | 3 => (R_Machine, "reader", "LCellLisp$Reader;", true)
  | 4 => (R_Machine, "printer", "LCellLisp$Printer;", true)
  | 5 => (R_Machine, "underWay", "Z", false)
  | _ => (R_Machine, "steps", "I", false)
def t_Machine : Nat → FieldType := fun k => match k with
  | 0 => .object "CellLisp$State"
  | 1 => .object "CellLisp$Room"
  | 2 => .object "CellLisp$Symbols"
  | 3 => .object "CellLisp$Reader"
  | 4 => .object "CellLisp$Printer"
  | 5 => .boolean
  | _ => .int
theorem n_Machine : ∀ a, a < 7 → ∀ b, b < 7 → a ≠ b → (T_Machine a).2.1 ≠ (T_Machine b).2.1 := by decide +kernel
theorem t_Machine_ok : ∀ k, k < 7 → parseFieldDescriptor (T_Machine k).2.2.1 = some (t_Machine k) := by decide +kernel
def T_Reader : u_T := fun k => match k with
  | 0 => (R_Reader, "text", "LCellLisp$Text;", true)
  | 1 => (R_Reader, "symbols", "LCellLisp$Symbols;", true)
  | 2 => (R_Reader, "room", "LCellLisp$Room;", true)
  | 3 => (R_Reader, "end", "I", false)
  | 4 => (R_Reader, "cells", "I", false)
  | 5 => (R_Reader, "form", "I", false)
  | 6 => (R_Reader, "heads", "[I", true)
  | 7 => (R_Reader, "lasts", "[I", true)
  | _ => (R_Reader, "quotes", "[Z", true)
def t_Reader : Nat → FieldType := fun k => match k with
  | 0 => .object "CellLisp$Text"
  | 1 => .object "CellLisp$Symbols"
  | 2 => .object "CellLisp$Room"
  | 3 => .int
  | 4 => .int
  | 5 => .int
  | 6 => .array .int
  | 7 => .array .int
  | _ => .array .boolean
theorem n_Reader : ∀ a, a < 9 → ∀ b, b < 9 → a ≠ b → (T_Reader a).2.1 ≠ (T_Reader b).2.1 := by decide +kernel
theorem t_Reader_ok : ∀ k, k < 9 → parseFieldDescriptor (T_Reader k).2.2.1 = some (t_Reader k) := by decide +kernel
def T_Printer : u_T := fun k => match k with
  | 0 => (R_Printer, "output", "LCellLisp$Output;", true)
  | 1 => (R_Printer, "symbols", "LCellLisp$Symbols;", true)
  | _ => (R_Printer, "room", "LCellLisp$Room;", true)
def t_Printer : Nat → FieldType := fun k => match k with
  | 0 => .object "CellLisp$Output"
  | 1 => .object "CellLisp$Symbols"
  | _ => .object "CellLisp$Room"
theorem n_Printer : ∀ a, a < 3 → ∀ b, b < 3 → a ≠ b → (T_Printer a).2.1 ≠ (T_Printer b).2.1 := by decide +kernel
theorem t_Printer_ok : ∀ k, k < 3 → parseFieldDescriptor (T_Printer k).2.2.1 = some (t_Printer k) := by decide +kernel
def T_Md : u_T := fun k => match k with
  | 0 => (R_Md, "thrown", "I", false)
  | 1 => (R_Md, "size", "I", true)
  | 2 => (R_Md, "cells", "[I", true)
  | 3 => (R_Md, "first", "[I", true)
  | 4 => (R_Md, "second", "[I", true)
  | 5 => (R_Md, "third", "[I", true)
  | 6 => (R_Md, "used", "[Z", true)
  | 7 => (R_Md, "kind", "[I", true)
  | 8 => (R_Md, "frameA", "[I", true)
  | 9 => (R_Md, "frameB", "[I", true)
  | 10 => (R_Md, "frameC", "[I", true)
  | 11 => (R_Md, "frames", "I", false)
  | 12 => (R_Md, "known", "I", false)
  | 13 => (R_Md, "names", "[C", true)
  | 14 => (R_Md, "globals", "[I", true)
  | 15 => (R_Md, "value", "I", false)
  | 16 => (R_Md, "scope", "I", false)
  | 17 => (R_Md, "under", "Z", false)
  | 18 => (R_Md, "returns", "Z", false)
  | 19 => (R_Md, "steps", "I", false)
  | 20 => (R_Md, "fed", "I", false)
  | 21 => (R_Md, "text", "[C", true)
  | 22 => (R_Md, "waits", "I", false)
  | 23 => (R_Md, "out", "[C", true)
  | 24 => (R_Md, "openFirst", "[I", true)
  | 25 => (R_Md, "openLast", "[I", true)
  | 26 => (R_Md, "quoted", "[Z", true)
  | 27 => (R_Md, "left", "[I", true)
  | 28 => (R_Md, "things", "[I", true)
  | 29 => (R_Md, "end", "I", false)
  | _ => (R_Md, "needs", "I", false)
def t_Md : Nat → FieldType := fun k => match k with
  | 0 => .int
  | 1 => .int
  | 2 => .array .int
  | 3 => .array .int
  | 4 => .array .int
  | 5 => .array .int
  | 6 => .array .boolean
  | 7 => .array .int
  | 8 => .array .int
  | 9 => .array .int
  | 10 => .array .int
  | 11 => .int
  | 12 => .int
  | 13 => .array .char
  | 14 => .array .int
  | 15 => .int
  | 16 => .int
  | 17 => .boolean
  | 18 => .boolean
  | 19 => .int
  | 20 => .int
  | 21 => .array .char
  | 22 => .int
  | 23 => .array .char
  | 24 => .array .int
  | 25 => .array .int
  | 26 => .array .boolean
  | 27 => .array .int
  | 28 => .array .int
  | 29 => .int
  | _ => .int
theorem n_Md : ∀ a, a < 31 → ∀ b, b < 31 → a ≠ b → (T_Md a).2.1 ≠ (T_Md b).2.1 := by decide +kernel
theorem t_Md_ok : ∀ k, k < 31 → parseFieldDescriptor (T_Md k).2.2.1 = some (t_Md k) := by decide +kernel
abbrev vwCl : List vw_C := [(R_CL, T_CL, 6), (R_Text, T_Text, 2), (R_Output, T_Output, 2), (R_Symbols, T_Symbols, 3), (R_State, T_State, 8), (R_Room, T_Room, 13), (R_Machine, T_Machine, 7), (R_Reader, T_Reader, 9), (R_Printer, T_Printer, 3), (R_Md, T_Md, 31)]
abbrev k_CL_init : ByteArray := prog_1_method_1_code
def y_CL_init : MethodName := ⟨R_CL, "<init>", "(I)V"⟩
abbrev k_CL_feed : ByteArray := prog_1_method_2_code
def y_CL_feed : MethodName := ⟨R_CL, "feed", "(II)Z"⟩
abbrev k_CL_run : ByteArray := prog_1_method_3_code
def y_CL_run : MethodName := ⟨R_CL, "run", "(I)I"⟩
abbrev k_CL_outSize : ByteArray := prog_1_method_4_code
def y_CL_outSize : MethodName := ⟨R_CL, "outSize", "()I"⟩
abbrev k_CL_out : ByteArray := prog_1_method_5_code
def y_CL_out : MethodName := ⟨R_CL, "out", "(I)I"⟩
abbrev k_CL_clearOut : ByteArray := prog_1_method_6_code
def y_CL_clearOut : MethodName := ⟨R_CL, "clearOut", "()V"⟩
abbrev k_CL_liveCells : ByteArray := prog_1_method_7_code
def y_CL_liveCells : MethodName := ⟨R_CL, "liveCells", "()I"⟩
abbrev k_CL_count : ByteArray := prog_1_method_8_code
def y_CL_count : MethodName := ⟨R_CL, "count", "(I)I"⟩
abbrev k_Text_init : ByteArray := prog_9_method_1_code
def y_Text_init : MethodName := ⟨R_Text, "<init>", "()V"⟩
abbrev k_Text_append : ByteArray := prog_9_method_2_code
def y_Text_append : MethodName := ⟨R_Text, "append", "(II)Z"⟩
abbrev k_Text_at : ByteArray := prog_9_method_3_code
def y_Text_at : MethodName := ⟨R_Text, "at", "(I)C"⟩
abbrev k_Text_drop : ByteArray := prog_9_method_4_code
def y_Text_drop : MethodName := ⟨R_Text, "drop", "(I)V"⟩
abbrev k_Text_pieceEnd : ByteArray := prog_9_method_5_code
def y_Text_pieceEnd : MethodName := ⟨R_Text, "pieceEnd", "(I)I"⟩
abbrev k_Text_isNumber : ByteArray := prog_9_method_6_code
def y_Text_isNumber : MethodName := ⟨R_Text, "isNumber", "(II)Z"⟩
abbrev k_Text_number : ByteArray := prog_9_method_7_code
def y_Text_number : MethodName := ⟨R_Text, "number", "(II)I"⟩
abbrev k_Text_name : ByteArray := prog_9_method_8_code
def y_Text_name : MethodName := ⟨R_Text, "name", "(II)J"⟩
abbrev k_Text_isBlank : ByteArray := prog_9_method_9_code
def y_Text_isBlank : MethodName := ⟨R_Text, "isBlank", "(C)Z"⟩
abbrev k_Text_isOfWord : ByteArray := prog_9_method_10_code
def y_Text_isOfWord : MethodName := ⟨R_Text, "isOfWord", "(C)Z"⟩
abbrev k_Text_isCharacter : ByteArray := prog_9_method_11_code
def y_Text_isCharacter : MethodName := ⟨R_Text, "isCharacter", "(I)Z"⟩
abbrev k_Output_init : ByteArray := prog_3_method_1_code
def y_Output_init : MethodName := ⟨R_Output, "<init>", "()V"⟩
abbrev k_Output_isFull : ByteArray := prog_3_method_2_code
def y_Output_isFull : MethodName := ⟨R_Output, "isFull", "()Z"⟩
abbrev k_Output_put : ByteArray := prog_3_method_3_code
def y_Output_put : MethodName := ⟨R_Output, "put", "(C)V"⟩
abbrev k_Output_at : ByteArray := prog_3_method_4_code
def y_Output_at : MethodName := ⟨R_Output, "at", "(I)I"⟩
abbrev k_Symbols_init : ByteArray := prog_8_method_1_code
def y_Symbols_init : MethodName := ⟨R_Symbols, "<init>", "()V"⟩
abbrev k_Symbols_find : ByteArray := prog_8_method_2_code
def y_Symbols_find : MethodName := ⟨R_Symbols, "find", "(J)I"⟩
abbrev k_Symbols_learn : ByteArray := prog_8_method_3_code
def y_Symbols_learn : MethodName := ⟨R_Symbols, "learn", "(J)Z"⟩
abbrev k_Symbols_name : ByteArray := prog_8_method_4_code
def y_Symbols_name : MethodName := ⟨R_Symbols, "name", "(I)J"⟩
abbrev k_Symbols_global : ByteArray := prog_8_method_5_code
def y_Symbols_global : MethodName := ⟨R_Symbols, "global", "(I)I"⟩
abbrev k_Symbols_setGlobal : ByteArray := prog_8_method_6_code
def y_Symbols_setGlobal : MethodName := ⟨R_Symbols, "setGlobal", "(II)V"⟩
abbrev k_State_init : ByteArray := prog_7_method_1_code
def y_State_init : MethodName := ⟨R_State, "<init>", "()V"⟩
abbrev k_State_push : ByteArray := prog_7_method_2_code
def y_State_push : MethodName := ⟨R_State, "push", "(III)Z"⟩
abbrev k_State_pop : ByteArray := prog_7_method_3_code
def y_State_pop : MethodName := ⟨R_State, "pop", "()V"⟩
abbrev k_State_kind : ByteArray := prog_7_method_4_code
def y_State_kind : MethodName := ⟨R_State, "kind", "()I"⟩
abbrev k_State_a : ByteArray := prog_7_method_5_code
def y_State_a : MethodName := ⟨R_State, "a", "()I"⟩
abbrev k_State_b : ByteArray := prog_7_method_6_code
def y_State_b : MethodName := ⟨R_State, "b", "()I"⟩
abbrev k_State_c : ByteArray := prog_7_method_7_code
def y_State_c : MethodName := ⟨R_State, "c", "()I"⟩
abbrev k_State_setA : ByteArray := prog_7_method_8_code
def y_State_setA : MethodName := ⟨R_State, "setA", "(I)V"⟩
abbrev k_State_setC : ByteArray := prog_7_method_9_code
def y_State_setC : MethodName := ⟨R_State, "setC", "(I)V"⟩
abbrev k_State_hasTop : ByteArray := prog_7_method_10_code
def y_State_hasTop : MethodName := ⟨R_State, "hasTop", "()Z"⟩
abbrev k_Room_init : ByteArray := prog_6_method_1_code
def y_Room_init : MethodName := ⟨R_Room, "<init>", "(ILCellLisp$State;LCellLisp$Symbols;)V"⟩
abbrev k_Room_hasFor : ByteArray := prog_6_method_2_code
def y_Room_hasFor : MethodName := ⟨R_Room, "hasFor", "(I)Z"⟩
abbrev k_Room_pair : ByteArray := prog_6_method_3_code
def y_Room_pair : MethodName := ⟨R_Room, "pair", "(II)I"⟩
abbrev k_Room_closure : ByteArray := prog_6_method_4_code
def y_Room_closure : MethodName := ⟨R_Room, "closure", "(III)I"⟩
abbrev k_Room_first : ByteArray := prog_6_method_5_code
def y_Room_first : MethodName := ⟨R_Room, "first", "(I)I"⟩
abbrev k_Room_second : ByteArray := prog_6_method_6_code
def y_Room_second : MethodName := ⟨R_Room, "second", "(I)I"⟩
abbrev k_Room_third : ByteArray := prog_6_method_7_code
def y_Room_third : MethodName := ⟨R_Room, "third", "(I)I"⟩
abbrev k_Room_setSecond : ByteArray := prog_6_method_8_code
def y_Room_setSecond : MethodName := ⟨R_Room, "setSecond", "(II)V"⟩
abbrev k_Room_length : ByteArray := prog_6_method_9_code
def y_Room_length : MethodName := ⟨R_Room, "length", "(I)I"⟩
abbrev k_Room_tail : ByteArray := prog_6_method_10_code
def y_Room_tail : MethodName := ⟨R_Room, "tail", "(II)I"⟩
abbrev k_Room_binding : ByteArray := prog_6_method_11_code
def y_Room_binding : MethodName := ⟨R_Room, "binding", "(II)I"⟩
abbrev k_Room_collect : ByteArray := prog_6_method_12_code
def y_Room_collect : MethodName := ⟨R_Room, "collect", "()V"⟩
abbrev k_Room_reach : ByteArray := prog_6_method_13_code
def y_Room_reach : MethodName := ⟨R_Room, "reach", "(I)V"⟩
abbrev k_Room_freeUnreached : ByteArray := prog_6_method_14_code
def y_Room_freeUnreached : MethodName := ⟨R_Room, "freeUnreached", "()V"⟩
abbrev k_Room_make : ByteArray := prog_6_method_15_code
def y_Room_make : MethodName := ⟨R_Room, "make", "(IIII)I"⟩
abbrev k_Room_isHere : ByteArray := prog_6_method_16_code
def y_Room_isHere : MethodName := ⟨R_Room, "isHere", "(I)Z"⟩
abbrev k_Machine_init : ByteArray := prog_2_method_1_code
def y_Machine_init : MethodName := ⟨R_Machine, "<init>", "(LCellLisp$State;LCellLisp$Room;LCellLisp$Symbols;LCellLisp$Reader;LCellLisp$Printer;)V"⟩
abbrev k_Machine_step : ByteArray := prog_2_method_2_code
def y_Machine_step : MethodName := ⟨R_Machine, "step", "()I"⟩
abbrev k_Machine_begin : ByteArray := prog_2_method_3_code
def y_Machine_begin : MethodName := ⟨R_Machine, "begin", "()I"⟩
abbrev k_Machine_endForm : ByteArray := prog_2_method_4_code
def y_Machine_endForm : MethodName := ⟨R_Machine, "endForm", "()V"⟩
abbrev k_Machine_evaluateNext : ByteArray := prog_2_method_5_code
def y_Machine_evaluateNext : MethodName := ⟨R_Machine, "evaluateNext", "(II)I"⟩
abbrev k_Machine_returnNext : ByteArray := prog_2_method_6_code
def y_Machine_returnNext : MethodName := ⟨R_Machine, "returnNext", "(I)I"⟩
abbrev k_Machine_evaluate : ByteArray := prog_2_method_7_code
def y_Machine_evaluate : MethodName := ⟨R_Machine, "evaluate", "()I"⟩
abbrev k_Machine_evaluateSymbol : ByteArray := prog_2_method_8_code
def y_Machine_evaluateSymbol : MethodName := ⟨R_Machine, "evaluateSymbol", "()I"⟩
abbrev k_Machine_evaluateUnder : ByteArray := prog_2_method_9_code
def y_Machine_evaluateUnder : MethodName := ⟨R_Machine, "evaluateUnder", "(IIII)I"⟩
abbrev k_Machine_part : ByteArray := prog_2_method_10_code
def y_Machine_part : MethodName := ⟨R_Machine, "part", "(I)I"⟩
abbrev k_Machine_evaluateQuote : ByteArray := prog_2_method_11_code
def y_Machine_evaluateQuote : MethodName := ⟨R_Machine, "evaluateQuote", "()I"⟩
abbrev k_Machine_evaluateIf : ByteArray := prog_2_method_12_code
def y_Machine_evaluateIf : MethodName := ⟨R_Machine, "evaluateIf", "()I"⟩
abbrev k_Machine_evaluateLambda : ByteArray := prog_2_method_13_code
def y_Machine_evaluateLambda : MethodName := ⟨R_Machine, "evaluateLambda", "()I"⟩
abbrev k_Machine_areParameters : ByteArray := prog_2_method_14_code
def y_Machine_areParameters : MethodName := ⟨R_Machine, "areParameters", "(I)Z"⟩
abbrev k_Machine_evaluateNaming : ByteArray := prog_2_method_15_code
def y_Machine_evaluateNaming : MethodName := ⟨R_Machine, "evaluateNaming", "(II)I"⟩
abbrev k_Machine_giveBack : ByteArray := prog_2_method_16_code
def y_Machine_giveBack : MethodName := ⟨R_Machine, "giveBack", "()I"⟩
abbrev k_Machine_choose : ByteArray := prog_2_method_17_code
def y_Machine_choose : MethodName := ⟨R_Machine, "choose", "()I"⟩
abbrev k_Machine_define : ByteArray := prog_2_method_18_code
def y_Machine_define : MethodName := ⟨R_Machine, "define", "()I"⟩
abbrev k_Machine_assign : ByteArray := prog_2_method_19_code
def y_Machine_assign : MethodName := ⟨R_Machine, "assign", "()I"⟩
abbrev k_Machine_keepValue : ByteArray := prog_2_method_20_code
def y_Machine_keepValue : MethodName := ⟨R_Machine, "keepValue", "()Z"⟩
abbrev k_Machine_nextArgument : ByteArray := prog_2_method_21_code
def y_Machine_nextArgument : MethodName := ⟨R_Machine, "nextArgument", "()I"⟩
abbrev k_Machine_apply : ByteArray := prog_2_method_22_code
def y_Machine_apply : MethodName := ⟨R_Machine, "apply", "()I"⟩
abbrev k_Machine_faultOfCall : ByteArray := prog_2_method_23_code
def y_Machine_faultOfCall : MethodName := ⟨R_Machine, "faultOfCall", "(II)I"⟩
abbrev k_Machine_faultOfPrimitive : ByteArray := prog_2_method_24_code
def y_Machine_faultOfPrimitive : MethodName := ⟨R_Machine, "faultOfPrimitive", "(II)I"⟩
abbrev k_Machine_cellsOfCall : ByteArray := prog_2_method_25_code
def y_Machine_cellsOfCall : MethodName := ⟨R_Machine, "cellsOfCall", "(II)I"⟩
abbrev k_Machine_boundEnvironment : ByteArray := prog_2_method_26_code
def y_Machine_boundEnvironment : MethodName := ⟨R_Machine, "boundEnvironment", "(III)I"⟩
abbrev k_Machine_primitiveResult : ByteArray := prog_2_method_27_code
def y_Machine_primitiveResult : MethodName := ⟨R_Machine, "primitiveResult", "(III)I"⟩
abbrev k_Machine_truth : ByteArray := prog_2_method_28_code
def y_Machine_truth : MethodName := ⟨R_Machine, "truth", "(Z)I"⟩
abbrev k_Machine_listOf : ByteArray := prog_2_method_29_code
def y_Machine_listOf : MethodName := ⟨R_Machine, "listOf", "(II)I"⟩
abbrev k_Reader_init : ByteArray := prog_5_method_1_code
def y_Reader_init : MethodName := ⟨R_Reader, "<init>", "(LCellLisp$Text;LCellLisp$Symbols;LCellLisp$Room;)V"⟩
abbrev k_Reader_read : ByteArray := prog_5_method_2_code
def y_Reader_read : MethodName := ⟨R_Reader, "read", "()I"⟩
abbrev k_Reader_findForm : ByteArray := prog_5_method_3_code
def y_Reader_findForm : MethodName := ⟨R_Reader, "findForm", "()I"⟩
abbrev k_Reader_isFault : ByteArray := prog_5_method_4_code
def y_Reader_isFault : MethodName := ⟨R_Reader, "isFault", "(CIZ)Z"⟩
abbrev k_Reader_cellsOfPiece : ByteArray := prog_5_method_5_code
def y_Reader_cellsOfPiece : MethodName := ⟨R_Reader, "cellsOfPiece", "(CIZ)I"⟩
abbrev k_Reader_learnSymbols : ByteArray := prog_5_method_6_code
def y_Reader_learnSymbols : MethodName := ⟨R_Reader, "learnSymbols", "()Z"⟩
abbrev k_Reader_isSymbol : ByteArray := prog_5_method_7_code
def y_Reader_isSymbol : MethodName := ⟨R_Reader, "isSymbol", "(II)Z"⟩
abbrev k_Reader_build : ByteArray := prog_5_method_8_code
def y_Reader_build : MethodName := ⟨R_Reader, "build", "()V"⟩
abbrev k_Reader_wordValue : ByteArray := prog_5_method_9_code
def y_Reader_wordValue : MethodName := ⟨R_Reader, "wordValue", "(II)I"⟩
abbrev k_Reader_place : ByteArray := prog_5_method_10_code
def y_Reader_place : MethodName := ⟨R_Reader, "place", "(IZI)V"⟩
abbrev k_Printer_init : ByteArray := prog_4_method_1_code
def y_Printer_init : MethodName := ⟨R_Printer, "<init>", "(LCellLisp$Output;LCellLisp$Symbols;LCellLisp$Room;)V"⟩
abbrev k_Printer_printLine : ByteArray := prog_4_method_2_code
def y_Printer_printLine : MethodName := ⟨R_Printer, "printLine", "(I)V"⟩
abbrev k_Printer_print : ByteArray := prog_4_method_3_code
def y_Printer_print : MethodName := ⟨R_Printer, "print", "(II)V"⟩
abbrev k_Printer_printList : ByteArray := prog_4_method_4_code
def y_Printer_printList : MethodName := ⟨R_Printer, "printList", "(II)V"⟩
abbrev k_Printer_printNumber : ByteArray := prog_4_method_5_code
def y_Printer_printNumber : MethodName := ⟨R_Printer, "printNumber", "(I)V"⟩
abbrev k_Printer_printName : ByteArray := prog_4_method_6_code
def y_Printer_printName : MethodName := ⟨R_Printer, "printName", "(J)V"⟩
abbrev k_Printer_printText : ByteArray := prog_4_method_7_code
def y_Printer_printText : MethodName := ⟨R_Printer, "printText", "(Ljava/lang/String;)V"⟩
abbrev k_Md_init : ByteArray := prog_12_method_1_code
def y_Md_init : MethodName := ⟨R_Md, "<init>", "(I)V"⟩
abbrev k_Md_word : ByteArray := prog_12_method_2_code
def y_Md_word : MethodName := ⟨R_Md, "word", "(IIIIII)V"⟩
abbrev k_Md_isNumber : ByteArray := prog_12_method_4_code
def y_Md_isNumber : MethodName := ⟨R_Md, "isNumber", "(I)Z"⟩
abbrev k_Md_isSymbol : ByteArray := prog_12_method_5_code
def y_Md_isSymbol : MethodName := ⟨R_Md, "isSymbol", "(I)Z"⟩
abbrev k_Md_isThing : ByteArray := prog_12_method_6_code
def y_Md_isThing : MethodName := ⟨R_Md, "isThing", "(I)Z"⟩
abbrev k_Md_isPair : ByteArray := prog_12_method_7_code
def y_Md_isPair : MethodName := ⟨R_Md, "isPair", "(I)Z"⟩
abbrev k_Md_isClosure : ByteArray := prog_12_method_8_code
def y_Md_isClosure : MethodName := ⟨R_Md, "isClosure", "(I)Z"⟩
abbrev k_Md_wrap : ByteArray := prog_12_method_9_code
def y_Md_wrap : MethodName := ⟨R_Md, "wrap", "(I)I"⟩
abbrev k_Md_car : ByteArray := prog_12_method_10_code
def y_Md_car : MethodName := ⟨R_Md, "car", "(I)I"⟩
abbrev k_Md_cdr : ByteArray := prog_12_method_11_code
def y_Md_cdr : MethodName := ⟨R_Md, "cdr", "(I)I"⟩
abbrev k_Md_mark : ByteArray := prog_12_method_12_code
def y_Md_mark : MethodName := ⟨R_Md, "mark", "(I)V"⟩
abbrev k_Md_live : ByteArray := prog_12_method_13_code
def y_Md_live : MethodName := ⟨R_Md, "live", "()I"⟩
abbrev k_Md_room : ByteArray := prog_12_method_14_code
def y_Md_room : MethodName := ⟨R_Md, "room", "(I)Z"⟩
abbrev k_Md_make : ByteArray := prog_12_method_15_code
def y_Md_make : MethodName := ⟨R_Md, "make", "(IIII)I"⟩
abbrev k_Md_pair : ByteArray := prog_12_method_16_code
def y_Md_pair : MethodName := ⟨R_Md, "pair", "(II)I"⟩
abbrev k_Md_feed : ByteArray := prog_12_method_17_code
def y_Md_feed : MethodName := ⟨R_Md, "feed", "(II)Z"⟩
abbrev k_Md_isBlank : ByteArray := prog_12_method_18_code
def y_Md_isBlank : MethodName := ⟨R_Md, "isBlank", "(C)Z"⟩
abbrev k_Md_isSign : ByteArray := prog_12_method_19_code
def y_Md_isSign : MethodName := ⟨R_Md, "isSign", "(C)Z"⟩
abbrev k_Md_skip : ByteArray := prog_12_method_20_code
def y_Md_skip : MethodName := ⟨R_Md, "skip", "(I)I"⟩
abbrev k_Md_tokenEnd : ByteArray := prog_12_method_21_code
def y_Md_tokenEnd : MethodName := ⟨R_Md, "tokenEnd", "(I)I"⟩
abbrev k_Md_drop : ByteArray := prog_12_method_22_code
def y_Md_drop : MethodName := ⟨R_Md, "drop", "(I)V"⟩
abbrev k_Md_isFigure : ByteArray := prog_12_method_23_code
def y_Md_isFigure : MethodName := ⟨R_Md, "isFigure", "(II)Z"⟩
abbrev k_Md_figure : ByteArray := prog_12_method_24_code
def y_Md_figure : MethodName := ⟨R_Md, "figure", "(II)I"⟩
abbrev k_Md_isNil : ByteArray := prog_12_method_25_code
def y_Md_isNil : MethodName := ⟨R_Md, "isNil", "(II)Z"⟩
abbrev k_Md_symbolOf : ByteArray := prog_12_method_26_code
def y_Md_symbolOf : MethodName := ⟨R_Md, "symbolOf", "(II)I"⟩
abbrev k_Md_atom : ByteArray := prog_12_method_27_code
def y_Md_atom : MethodName := ⟨R_Md, "atom", "(II)I"⟩
abbrev k_Md_meet : ByteArray := prog_12_method_28_code
def y_Md_meet : MethodName := ⟨R_Md, "meet", "(II)Z"⟩
abbrev k_Md_lookOver : ByteArray := prog_12_method_29_code
def y_Md_lookOver : MethodName := ⟨R_Md, "lookOver", "()I"⟩
abbrev k_Md_arrived : ByteArray := prog_12_method_30_code
def y_Md_arrived : MethodName := ⟨R_Md, "arrived", "(II)V"⟩
abbrev k_Md_read : ByteArray := prog_12_method_31_code
def y_Md_read : MethodName := ⟨R_Md, "read", "()V"⟩
abbrev k_Md_reading : ByteArray := prog_12_method_32_code
def y_Md_reading : MethodName := ⟨R_Md, "reading", "()I"⟩
abbrev k_Md_push : ByteArray := prog_12_method_33_code
def y_Md_push : MethodName := ⟨R_Md, "push", "(III)I"⟩
abbrev k_Md_give : ByteArray := prog_12_method_34_code
def y_Md_give : MethodName := ⟨R_Md, "give", "(I)I"⟩
abbrev k_Md_go : ByteArray := prog_12_method_35_code
def y_Md_go : MethodName := ⟨R_Md, "go", "(II)I"⟩
abbrev k_Md_lengthOf : ByteArray := prog_12_method_36_code
def y_Md_lengthOf : MethodName := ⟨R_Md, "lengthOf", "(I)I"⟩
abbrev k_Md_at : ByteArray := prog_12_method_37_code
def y_Md_at : MethodName := ⟨R_Md, "at", "(II)I"⟩
abbrev k_Md_binding : ByteArray := prog_12_method_38_code
def y_Md_binding : MethodName := ⟨R_Md, "binding", "(II)I"⟩
abbrev k_Md_lookUp : ByteArray := prog_12_method_39_code
def y_Md_lookUp : MethodName := ⟨R_Md, "lookUp", "()I"⟩
abbrev k_Md_areParameters : ByteArray := prog_12_method_40_code
def y_Md_areParameters : MethodName := ⟨R_Md, "areParameters", "(I)Z"⟩
abbrev k_Md_special : ByteArray := prog_12_method_41_code
def y_Md_special : MethodName := ⟨R_Md, "special", "(I)I"⟩
abbrev k_Md_evaluate : ByteArray := prog_12_method_42_code
def y_Md_evaluate : MethodName := ⟨R_Md, "evaluate", "()I"⟩
abbrev k_Md_back : ByteArray := prog_12_method_43_code
def y_Md_back : MethodName := ⟨R_Md, "back", "()I"⟩
abbrev k_Md_argument : ByteArray := prog_12_method_44_code
def y_Md_argument : MethodName := ⟨R_Md, "argument", "(I)I"⟩
abbrev k_Md_done : ByteArray := prog_12_method_45_code
def y_Md_done : MethodName := ⟨R_Md, "done", "(I)I"⟩
abbrev k_Md_apply : ByteArray := prog_12_method_46_code
def y_Md_apply : MethodName := ⟨R_Md, "apply", "(I)I"⟩
abbrev k_Md_listed : ByteArray := prog_12_method_47_code
def y_Md_listed : MethodName := ⟨R_Md, "listed", "(II)I"⟩
abbrev k_Md_enter : ByteArray := prog_12_method_48_code
def y_Md_enter : MethodName := ⟨R_Md, "enter", "(III)I"⟩
abbrev k_Md_clearAll : ByteArray := prog_12_method_49_code
def y_Md_clearAll : MethodName := ⟨R_Md, "clearAll", "()V"⟩
abbrev k_Md_run : ByteArray := prog_12_method_50_code
def y_Md_run : MethodName := ⟨R_Md, "run", "(I)I"⟩
abbrev k_Md_put : ByteArray := prog_12_method_51_code
def y_Md_put : MethodName := ⟨R_Md, "put", "(I)V"⟩
abbrev k_Md_putName : ByteArray := prog_12_method_52_code
def y_Md_putName : MethodName := ⟨R_Md, "putName", "(I)V"⟩
abbrev k_Md_putNumber : ByteArray := prog_12_method_53_code
def y_Md_putNumber : MethodName := ⟨R_Md, "putNumber", "(I)V"⟩
abbrev k_Md_putDots : ByteArray := prog_12_method_54_code
def y_Md_putDots : MethodName := ⟨R_Md, "putDots", "()V"⟩
abbrev k_Md_putPlain : ByteArray := prog_12_method_55_code
def y_Md_putPlain : MethodName := ⟨R_Md, "putPlain", "(I)V"⟩
abbrev k_Md_begin : ByteArray := prog_12_method_56_code
def y_Md_begin : MethodName := ⟨R_Md, "begin", "(II)I"⟩
abbrev k_Md_further : ByteArray := prog_12_method_57_code
def y_Md_further : MethodName := ⟨R_Md, "further", "(I)I"⟩
abbrev k_Md_print : ByteArray := prog_12_method_58_code
def y_Md_print : MethodName := ⟨R_Md, "print", "()V"⟩
abbrev k_Md_outSize : ByteArray := prog_12_method_59_code
def y_Md_outSize : MethodName := ⟨R_Md, "outSize", "()I"⟩
abbrev k_Md_out : ByteArray := prog_12_method_60_code
def y_Md_out : MethodName := ⟨R_Md, "out", "(I)I"⟩
abbrev k_Md_clearOut : ByteArray := prog_12_method_61_code
def y_Md_clearOut : MethodName := ⟨R_Md, "clearOut", "()V"⟩
abbrev k_Md_liveCells : ByteArray := prog_12_method_62_code
def y_Md_liveCells : MethodName := ⟨R_Md, "liveCells", "()I"⟩
abbrev k_Md_count : ByteArray := prog_12_method_63_code
def y_Md_count : MethodName := ⟨R_Md, "count", "(I)I"⟩
abbrev k_Value_of : ByteArray := prog_10_method_2_code
def y_Value_of : MethodName := ⟨R_Value, "of", "(II)I"⟩
abbrev k_Value_kind : ByteArray := prog_10_method_3_code
def y_Value_kind : MethodName := ⟨R_Value, "kind", "(I)I"⟩
abbrev k_Value_content : ByteArray := prog_10_method_4_code
def y_Value_content : MethodName := ⟨R_Value, "content", "(I)I"⟩
abbrev k_Value_isPair : ByteArray := prog_10_method_5_code
def y_Value_isPair : MethodName := ⟨R_Value, "isPair", "(I)Z"⟩
abbrev k_Value_isSymbol : ByteArray := prog_10_method_6_code
def y_Value_isSymbol : MethodName := ⟨R_Value, "isSymbol", "(I)Z"⟩
abbrev k_Value_isNumber : ByteArray := prog_10_method_7_code
def y_Value_isNumber : MethodName := ⟨R_Value, "isNumber", "(I)Z"⟩
abbrev k_Law_cell : ByteArray := method_2_code
def y_Law_cell : MethodName := ⟨R_Law, "cell", "([II)I"⟩
abbrev tyl (ca : Nat → ClassId) : List (ClassId × FieldType) := [(ca 0, .int), (ca 1, .char), (ca 2, .boolean), (ca 3, .long)]
abbrev shC (S : Nat) : List pm_E := [
  .inr (0, [.inl 1, .inl 2, .inl 3, .inl 4, .inl 5, .inl 6]),
  .inr (1, [.inl 9, .inr false]),
  .inr (2, [.inl 10, .inr false]),
  .inr (3, [.inl 11, .inl 12, .inr false]),
  .inr (4, [.inr false, .inr false, .inr false, .inr false, .inl 13, .inl 14, .inl 15, .inl 16]),
  .inr (5, [.inr false, .inr false, .inl 17, .inl 18, .inl 19, .inl 20, .inl 21, .inl 22, .inr false, .inr false, .inr false, .inl 4, .inl 3]),
  .inr (6, [.inl 4, .inl 5, .inl 3, .inl 7, .inl 8, .inr false, .inr false]),
  .inr (7, [.inl 1, .inl 3, .inl 5, .inr false, .inr false, .inr false, .inl 23, .inl 24, .inl 25]),
  .inr (8, [.inl 2, .inl 3, .inl 5]),
  .inl (1, .char, 120),
  .inl (1, .char, 200),
  .inl (3, .long, 40),
  .inl (0, .int, 40),
  .inl (0, .int, 30),
  .inl (0, .int, 30),
  .inl (0, .int, 30),
  .inl (0, .int, 30),
  .inl (0, .int, S),
  .inl (0, .int, S),
  .inl (0, .int, S),
  .inl (2, .boolean, S),
  .inl (0, .int, S),
  .inl (0, .int, S),
  .inl (0, .int, 11),
  .inl (0, .int, 11),
  .inl (2, .boolean, 11)]
abbrev shM : List pm_E := [
  .inr (9, [.inr false, .inr false, .inl 1, .inl 2, .inl 3, .inl 4, .inl 5, .inl 6, .inl 7, .inl 8, .inl 9, .inr false, .inr false, .inl 10, .inl 11, .inr false, .inr false, .inr false, .inr false, .inr false, .inr false, .inl 12, .inr false, .inl 13, .inl 14, .inl 15, .inl 16, .inl 17, .inl 18, .inr false, .inr false]),
  .inl (0, .int, 206),
  .inl (0, .int, 206),
  .inl (0, .int, 206),
  .inl (0, .int, 206),
  .inl (2, .boolean, 206),
  .inl (0, .int, 30),
  .inl (0, .int, 30),
  .inl (0, .int, 30),
  .inl (0, .int, 30),
  .inl (1, .char, 320),
  .inl (0, .int, 40),
  .inl (1, .char, 120),
  .inl (1, .char, 200),
  .inl (0, .int, 12),
  .inl (0, .int, 12),
  .inl (2, .boolean, 12),
  .inl (0, .int, 18),
  .inl (0, .int, 18)]
