def RX0 : String := "FoxBurrows$Changes"
def TX0 : u_T := fun k => match k with
  | 0 => ("FoxBurrows$Changes", "earlier", "[LFoxBurrows$State;", true)
  | 1 => ("FoxBurrows$Changes", "kept", "I", false)
  | _ => ("FoxBurrows$Changes", "next", "I", false)
def tyX0 : Nat → FieldType := fun k => match k with
  | 0 => .array (.object "FoxBurrows$State")
  | 1 => .int
  | _ => .int
theorem nmX0 : ∀ a, a < 3 → ∀ b, b < 3 → a ≠ b → (TX0 a).2.1 ≠ (TX0 b).2.1 := by decide +kernel
theorem tyX0_ok : ∀ k, k < 3 → parseFieldDescriptor (TX0 k).2.2.1 = some (tyX0 k) := by decide +kernel
abbrev cX0_init : ByteArray := prog_2_method_1_code
def yX0_init : MethodName := ⟨RX0, "<init>", "()V"⟩
abbrev cX0_keep : ByteArray := prog_2_method_2_code
def yX0_keep : MethodName := ⟨RX0, "keep", "(LFoxBurrows$State;)V"⟩
abbrev cX0_takeInto : ByteArray := prog_2_method_3_code
def yX0_takeInto : MethodName := ⟨RX0, "takeInto", "(LFoxBurrows$State;)V"⟩
abbrev cX0_placeAt : ByteArray := prog_2_method_4_code
def yX0_placeAt : MethodName := ⟨RX0, "placeAt", "(I)LFoxBurrows$State;"⟩
def RX1 : String := "FoxBurrows$Field"
def TX1 : u_T := fun k => match k with
  | 0 => ("FoxBurrows$Field", "burrows", "I", false)
  | 1 => ("FoxBurrows$Field", "paths", "I", false)
  | 2 => ("FoxBurrows$Field", "traps", "I", false)
  | 3 => ("FoxBurrows$Field", "geese", "I", false)
  | 4 => ("FoxBurrows$Field", "version", "I", false)
  | 5 => ("FoxBurrows$Field", "ones", "[I", true)
  | 6 => ("FoxBurrows$Field", "others", "[I", true)
  | _ => ("FoxBurrows$Field", "near", "[I", true)
def tyX1 : Nat → FieldType := fun k => match k with
  | 0 => .int
  | 1 => .int
  | 2 => .int
  | 3 => .int
  | 4 => .int
  | 5 => .array .int
  | 6 => .array .int
  | _ => .array .int
theorem nmX1 : ∀ a, a < 8 → ∀ b, b < 8 → a ≠ b → (TX1 a).2.1 ≠ (TX1 b).2.1 := by decide +kernel
theorem tyX1_ok : ∀ k, k < 8 → parseFieldDescriptor (TX1 k).2.2.1 = some (tyX1 k) := by decide +kernel
abbrev cX1_init : ByteArray := prog_3_method_1_code
def yX1_init : MethodName := ⟨RX1, "<init>", "()V"⟩
abbrev cX1_become : ByteArray := prog_3_method_2_code
def yX1_become : MethodName := ⟨RX1, "become", "(LFoxBurrows$Field;)V"⟩
abbrev cX1_has : ByteArray := prog_3_method_3_code
def yX1_has : MethodName := ⟨RX1, "has", "(I)Z"⟩
abbrev cX1_isTrap : ByteArray := prog_3_method_4_code
def yX1_isTrap : MethodName := ⟨RX1, "isTrap", "(I)Z"⟩
abbrev cX1_pathBetween : ByteArray := prog_3_method_5_code
def yX1_pathBetween : MethodName := ⟨RX1, "pathBetween", "(II)I"⟩
abbrev cX1_join : ByteArray := prog_3_method_6_code
def yX1_join : MethodName := ⟨RX1, "join", "(II)V"⟩
abbrev cX1_part : ByteArray := prog_3_method_7_code
def yX1_part : MethodName := ⟨RX1, "part", "(I)V"⟩
abbrev cX1_turnNear : ByteArray := prog_3_method_8_code
def yX1_turnNear : MethodName := ⟨RX1, "turnNear", "(II)V"⟩
abbrev cX1_fits : ByteArray := prog_3_method_9_code
def yX1_fits : MethodName := ⟨RX1, "fits", "(III)Z"⟩
abbrev cX1_holds : ByteArray := prog_3_method_10_code
def yX1_holds : MethodName := ⟨RX1, "holds", "(I)Z"⟩
abbrev cX1_listPositions : ByteArray := prog_3_method_11_code
def yX1_listPositions : MethodName := ⟨RX1, "listPositions", "([I)I"⟩
abbrev cX1_movesOf : ByteArray := prog_3_method_12_code
def yX1_movesOf : MethodName := ⟨RX1, "movesOf", "(I)J"⟩
abbrev cX1_waysBack : ByteArray := prog_3_method_13_code
def yX1_waysBack : MethodName := ⟨RX1, "waysBack", "(I)J"⟩
abbrev cX1_allows : ByteArray := prog_3_method_14_code
def yX1_allows : MethodName := ⟨RX1, "allows", "(III)Z"⟩
abbrev cX1_taken : ByteArray := prog_3_method_15_code
def yX1_taken : MethodName := ⟨RX1, "taken", "(I)I"⟩
abbrev cX1_moves : ByteArray := prog_3_method_16_code
def yX1_moves : MethodName := ⟨RX1, "moves", "(II)J"⟩
def RX2 : String := "FoxBurrows$Game"
def TX2 : u_T := fun k => match k with
  | 0 => ("FoxBurrows$Game", "isOn", "Z", false)
  | 1 => ("FoxBurrows$Game", "moves", "I", false)
  | 2 => ("FoxBurrows$Game", "positions", "[I", true)
  | _ => ("FoxBurrows$Game", "made", "[I", true)
def tyX2 : Nat → FieldType := fun k => match k with
  | 0 => .boolean
  | 1 => .int
  | 2 => .array .int
  | _ => .array .int
theorem nmX2 : ∀ a, a < 4 → ∀ b, b < 4 → a ≠ b → (TX2 a).2.1 ≠ (TX2 b).2.1 := by decide +kernel
theorem tyX2_ok : ∀ k, k < 4 → parseFieldDescriptor (TX2 k).2.2.1 = some (tyX2 k) := by decide +kernel
abbrev cX2_init : ByteArray := prog_4_method_1_code
def yX2_init : MethodName := ⟨RX2, "<init>", "()V"⟩
abbrev cX2_become : ByteArray := prog_4_method_2_code
def yX2_become : MethodName := ⟨RX2, "become", "(LFoxBurrows$Game;)V"⟩
abbrev cX2_start : ByteArray := prog_4_method_3_code
def yX2_start : MethodName := ⟨RX2, "start", "(I)V"⟩
abbrev cX2_add : ByteArray := prog_4_method_4_code
def yX2_add : MethodName := ⟨RX2, "add", "(II)V"⟩
abbrev cX2_lastPosition : ByteArray := prog_4_method_5_code
def yX2_lastPosition : MethodName := ⟨RX2, "lastPosition", "()I"⟩
def RX3 : String := "FoxBurrows$Reader"
def TX3 : u_T := fun k => match k with
  | 0 => ("FoxBurrows$Reader", "count", "I", false)
  | 1 => ("FoxBurrows$Reader", "kinds", "[I", true)
  | 2 => ("FoxBurrows$Reader", "ones", "[I", true)
  | 3 => ("FoxBurrows$Reader", "others", "[I", true)
  | _ => ("FoxBurrows$Reader", "place", "I", false)
def tyX3 : Nat → FieldType := fun k => match k with
  | 0 => .int
  | 1 => .array .int
  | 2 => .array .int
  | 3 => .array .int
  | _ => .int
theorem nmX3 : ∀ a, a < 5 → ∀ b, b < 5 → a ≠ b → (TX3 a).2.1 ≠ (TX3 b).2.1 := by decide +kernel
theorem tyX3_ok : ∀ k, k < 5 → parseFieldDescriptor (TX3 k).2.2.1 = some (tyX3 k) := by decide +kernel
abbrev cX3_init : ByteArray := prog_5_method_1_code
def yX3_init : MethodName := ⟨RX3, "<init>", "()V"⟩
abbrev cX3_read : ByteArray := prog_5_method_2_code
def yX3_read : MethodName := ⟨RX3, "read", "(LFoxBurrows$Text;)I"⟩
abbrev cX3_isCommand : ByteArray := prog_5_method_3_code
def yX3_isCommand : MethodName := ⟨RX3, "isCommand", "(LFoxBurrows$Text;)Z"⟩
abbrev cX3_digitsOf : ByteArray := prog_5_method_4_code
def yX3_digitsOf : MethodName := ⟨RX3, "digitsOf", "(C)I"⟩
abbrev cX3_markOf : ByteArray := prog_5_method_5_code
def yX3_markOf : MethodName := ⟨RX3, "markOf", "(C)C"⟩
abbrev cX3_numberIn : ByteArray := prog_5_method_6_code
def yX3_numberIn : MethodName := ⟨RX3, "numberIn", "(LFoxBurrows$Text;I)I"⟩
def RX4 : String := "FoxBurrows$Reason"
def TX4 : u_T := fun k => match k with
  | 0 => ("FoxBurrows$Reason", "isThere", "Z", false)
  | 1 => ("FoxBurrows$Reason", "why", "I", false)
  | 2 => ("FoxBurrows$Reason", "detail", "I", false)
  | _ => ("FoxBurrows$Reason", "command", "I", false)
def tyX4 : Nat → FieldType := fun k => match k with
  | 0 => .boolean
  | 1 => .int
  | 2 => .int
  | _ => .int
theorem nmX4 : ∀ a, a < 4 → ∀ b, b < 4 → a ≠ b → (TX4 a).2.1 ≠ (TX4 b).2.1 := by decide +kernel
theorem tyX4_ok : ∀ k, k < 4 → parseFieldDescriptor (TX4 k).2.2.1 = some (tyX4 k) := by decide +kernel
abbrev cX4_init : ByteArray := prog_6_method_1_code
def yX4_init : MethodName := ⟨RX4, "<init>", "()V"⟩
def RX5 : String := "FoxBurrows$SecondWay"
def TX5 : u_T := fun k => match k with
  | 0 => ("FoxBurrows$SecondWay", "solved", "I", false)
  | 1 => ("FoxBurrows$SecondWay", "all", "[I", true)
  | _ => ("FoxBurrows$SecondWay", "outcomes", "[I", true)
def tyX5 : Nat → FieldType := fun k => match k with
  | 0 => .int
  | 1 => .array .int
  | _ => .array .int
theorem nmX5 : ∀ a, a < 3 → ∀ b, b < 3 → a ≠ b → (TX5 a).2.1 ≠ (TX5 b).2.1 := by decide +kernel
theorem tyX5_ok : ∀ k, k < 3 → parseFieldDescriptor (TX5 k).2.2.1 = some (tyX5 k) := by decide +kernel
abbrev cX5_init : ByteArray := prog_7_method_1_code
def yX5_init : MethodName := ⟨RX5, "<init>", "()V"⟩
abbrev cX5_solve : ByteArray := prog_7_method_2_code
def yX5_solve : MethodName := ⟨RX5, "solve", "(LFoxBurrows$Field;)V"⟩
abbrev cX5_seen : ByteArray := prog_7_method_3_code
def yX5_seen : MethodName := ⟨RX5, "seen", "(LFoxBurrows$Field;I)I"⟩
abbrev cX5_outcomeOf : ByteArray := prog_7_method_4_code
def yX5_outcomeOf : MethodName := ⟨RX5, "outcomeOf", "(I)I"⟩
def RX6 : String := "FoxBurrows$State"
def TX6 : u_T := fun k => match k with
  | 0 => ("FoxBurrows$State", "field", "LFoxBurrows$Field;", true)
  | 1 => ("FoxBurrows$State", "game", "LFoxBurrows$Game;", true)
  | _ => ("FoxBurrows$State", "begun", "I", false)
def tyX6 : Nat → FieldType := fun k => match k with
  | 0 => .object "FoxBurrows$Field"
  | 1 => .object "FoxBurrows$Game"
  | _ => .int
theorem nmX6 : ∀ a, a < 3 → ∀ b, b < 3 → a ≠ b → (TX6 a).2.1 ≠ (TX6 b).2.1 := by decide +kernel
theorem tyX6_ok : ∀ k, k < 3 → parseFieldDescriptor (TX6 k).2.2.1 = some (tyX6 k) := by decide +kernel
abbrev cX6_init : ByteArray := prog_8_method_1_code
def yX6_init : MethodName := ⟨RX6, "<init>", "()V"⟩
abbrev cX6_become : ByteArray := prog_8_method_2_code
def yX6_become : MethodName := ⟨RX6, "become", "(LFoxBurrows$State;)V"⟩
def RX7 : String := "FoxBurrows$Table"
def TX7 : u_T := fun k => match k with
  | 0 => ("FoxBurrows$Table", "size", "I", false)
  | 1 => ("FoxBurrows$Table", "solved", "I", false)
  | 2 => ("FoxBurrows$Table", "all", "[I", true)
  | 3 => ("FoxBurrows$Table", "told", "[I", true)
  | 4 => ("FoxBurrows$Table", "numbers", "[I", true)
  | _ => ("FoxBurrows$Table", "open", "[I", true)
def tyX7 : Nat → FieldType := fun k => match k with
  | 0 => .int
  | 1 => .int
  | 2 => .array .int
  | 3 => .array .int
  | 4 => .array .int
  | _ => .array .int
theorem nmX7 : ∀ a, a < 6 → ∀ b, b < 6 → a ≠ b → (TX7 a).2.1 ≠ (TX7 b).2.1 := by decide +kernel
theorem tyX7_ok : ∀ k, k < 6 → parseFieldDescriptor (TX7 k).2.2.1 = some (tyX7 k) := by decide +kernel
abbrev cX7_init : ByteArray := prog_9_method_1_code
def yX7_init : MethodName := ⟨RX7, "<init>", "()V"⟩
abbrev cX7_solve : ByteArray := prog_9_method_2_code
def yX7_solve : MethodName := ⟨RX7, "solve", "(LFoxBurrows$Field;)V"⟩
abbrev cX7_tellBefore : ByteArray := prog_9_method_3_code
def yX7_tellBefore : MethodName := ⟨RX7, "tellBefore", "(IJI)I"⟩
abbrev cX7_isDecided : ByteArray := prog_9_method_4_code
def yX7_isDecided : MethodName := ⟨RX7, "isDecided", "(II)Z"⟩
abbrev cX7_positionAt : ByteArray := prog_9_method_5_code
def yX7_positionAt : MethodName := ⟨RX7, "positionAt", "(I)I"⟩
abbrev cX7_inMoves : ByteArray := prog_9_method_6_code
def yX7_inMoves : MethodName := ⟨RX7, "inMoves", "(I)I"⟩
abbrev cX7_outcomeOf : ByteArray := prog_9_method_7_code
def yX7_outcomeOf : MethodName := ⟨RX7, "outcomeOf", "(I)I"⟩
abbrev cX7_isFoxWinning : ByteArray := prog_9_method_8_code
def yX7_isFoxWinning : MethodName := ⟨RX7, "isFoxWinning", "(I)Z"⟩
abbrev cX7_bestMove : ByteArray := prog_9_method_9_code
def yX7_bestMove : MethodName := ⟨RX7, "bestMove", "(LFoxBurrows$Field;I)I"⟩
def RX8 : String := "FoxBurrows$Text"
def TX8 : u_T := fun k => match k with
  | 0 => ("FoxBurrows$Text", "length", "I", false)
  | _ => ("FoxBurrows$Text", "signs", "[C", true)
def tyX8 : Nat → FieldType := fun k => match k with
  | 0 => .int
  | _ => .array .char
theorem nmX8 : ∀ a, a < 2 → ∀ b, b < 2 → a ≠ b → (TX8 a).2.1 ≠ (TX8 b).2.1 := by decide +kernel
theorem tyX8_ok : ∀ k, k < 2 → parseFieldDescriptor (TX8 k).2.2.1 = some (tyX8 k) := by decide +kernel
abbrev cX8_init : ByteArray := prog_10_method_1_code
def yX8_init : MethodName := ⟨RX8, "<init>", "()V"⟩
abbrev cX8_add : ByteArray := prog_10_method_2_code
def yX8_add : MethodName := ⟨RX8, "add", "(C)V"⟩
abbrev cX8_sign : ByteArray := prog_10_method_3_code
def yX8_sign : MethodName := ⟨RX8, "sign", "(I)C"⟩
def RX9 : String := "FoxBurrows"
def TX9 : u_T := fun k => match k with
  | 0 => ("FoxBurrows", "state", "LFoxBurrows$State;", true)
  | 1 => ("FoxBurrows", "before", "LFoxBurrows$State;", true)
  | 2 => ("FoxBurrows", "saved", "LFoxBurrows$State;", true)
  | 3 => ("FoxBurrows", "hasSaved", "Z", false)
  | 4 => ("FoxBurrows", "changes", "LFoxBurrows$Changes;", true)
  | 5 => ("FoxBurrows", "trialField", "LFoxBurrows$Field;", true)
  | 6 => ("FoxBurrows", "table", "LFoxBurrows$Table;", true)
  | 7 => ("FoxBurrows", "trialTable", "LFoxBurrows$Table;", true)
  | 8 => ("FoxBurrows", "secondWay", "LFoxBurrows$SecondWay;", true)
  | 9 => ("FoxBurrows", "buffer", "LFoxBurrows$Text;", true)
  | 10 => ("FoxBurrows", "written", "LFoxBurrows$Text;", true)
  | 11 => ("FoxBurrows", "reader", "LFoxBurrows$Reader;", true)
  | 12 => ("FoxBurrows", "kept", "LFoxBurrows$Reason;", true)
  | 13 => ("FoxBurrows", "fault", "I", false)
  | 14 => ("FoxBurrows", "command", "I", false)
  | _ => ("FoxBurrows", "versions", "I", false)
def tyX9 : Nat → FieldType := fun k => match k with
  | 0 => .object "FoxBurrows$State"
  | 1 => .object "FoxBurrows$State"
  | 2 => .object "FoxBurrows$State"
  | 3 => .boolean
  | 4 => .object "FoxBurrows$Changes"
  | 5 => .object "FoxBurrows$Field"
  | 6 => .object "FoxBurrows$Table"
  | 7 => .object "FoxBurrows$Table"
  | 8 => .object "FoxBurrows$SecondWay"
  | 9 => .object "FoxBurrows$Text"
  | 10 => .object "FoxBurrows$Text"
  | 11 => .object "FoxBurrows$Reader"
  | 12 => .object "FoxBurrows$Reason"
  | 13 => .int
  | 14 => .int
  | _ => .int
theorem nmX9 : ∀ a, a < 16 → ∀ b, b < 16 → a ≠ b → (TX9 a).2.1 ≠ (TX9 b).2.1 := by decide +kernel
theorem tyX9_ok : ∀ k, k < 16 → parseFieldDescriptor (TX9 k).2.2.1 = some (tyX9 k) := by decide +kernel
abbrev cX9_init : ByteArray := prog_1_method_1_code
def yX9_init : MethodName := ⟨RX9, "<init>", "()V"⟩
abbrev cX9_dig : ByteArray := prog_1_method_2_code
def yX9_dig : MethodName := ⟨RX9, "dig", "()I"⟩
abbrev cX9_tread : ByteArray := prog_1_method_3_code
def yX9_tread : MethodName := ⟨RX9, "tread", "(II)I"⟩
abbrev cX9_grow : ByteArray := prog_1_method_4_code
def yX9_grow : MethodName := ⟨RX9, "grow", "(II)I"⟩
abbrev cX9_trap : ByteArray := prog_1_method_5_code
def yX9_trap : MethodName := ⟨RX9, "trap", "(IZ)I"⟩
abbrev cX9_flock : ByteArray := prog_1_method_6_code
def yX9_flock : MethodName := ⟨RX9, "flock", "(I)I"⟩
abbrev cX9_begin : ByteArray := prog_1_method_7_code
def yX9_begin : MethodName := ⟨RX9, "begin", "(I)I"⟩
abbrev cX9_move : ByteArray := prog_1_method_8_code
def yX9_move : MethodName := ⟨RX9, "move", "(II)I"⟩
abbrev cX9_play : ByteArray := prog_1_method_9_code
def yX9_play : MethodName := ⟨RX9, "play", "(I)I"⟩
abbrev cX9_back : ByteArray := prog_1_method_10_code
def yX9_back : MethodName := ⟨RX9, "back", "()I"⟩
abbrev cX9_now : ByteArray := prog_1_method_11_code
def yX9_now : MethodName := ⟨RX9, "now", "()I"⟩
abbrev cX9_position : ByteArray := prog_1_method_12_code
def yX9_position : MethodName := ⟨RX9, "position", "(IIIZ)I"⟩
abbrev cX9_positionOf : ByteArray := prog_1_method_13_code
def yX9_positionOf : MethodName := ⟨RX9, "positionOf", "(II)I"⟩
abbrev cX9_outcomeAgain : ByteArray := prog_1_method_14_code
def yX9_outcomeAgain : MethodName := ⟨RX9, "outcomeAgain", "(I)I"⟩
abbrev cX9_moveOf : ByteArray := prog_1_method_15_code
def yX9_moveOf : MethodName := ⟨RX9, "moveOf", "(IIZ)I"⟩
abbrev cX9_best : ByteArray := prog_1_method_16_code
def yX9_best : MethodName := ⟨RX9, "best", "(I)I"⟩
abbrev cX9_after : ByteArray := prog_1_method_17_code
def yX9_after : MethodName := ⟨RX9, "after", "(III)I"⟩
abbrev cX9_ends : ByteArray := prog_1_method_18_code
def yX9_ends : MethodName := ⟨RX9, "ends", "(I)I"⟩
abbrev cX9_count : ByteArray := prog_1_method_19_code
def yX9_count : MethodName := ⟨RX9, "count", "(IZ)I"⟩
abbrev cX9_longest : ByteArray := prog_1_method_20_code
def yX9_longest : MethodName := ⟨RX9, "longest", "(Z)I"⟩
abbrev cX9_wonIn : ByteArray := prog_1_method_21_code
def yX9_wonIn : MethodName := ⟨RX9, "wonIn", "(I)I"⟩
abbrev cX9_wouldChange : ByteArray := prog_1_method_22_code
def yX9_wouldChange : MethodName := ⟨RX9, "wouldChange", "(II)I"⟩
abbrev cX9_bestBurrow : ByteArray := prog_1_method_23_code
def yX9_bestBurrow : MethodName := ⟨RX9, "bestBurrow", "(I)I"⟩
abbrev cX9_burrowOf : ByteArray := prog_1_method_24_code
def yX9_burrowOf : MethodName := ⟨RX9, "burrowOf", "(II)I"⟩
abbrev cX9_pathOf : ByteArray := prog_1_method_25_code
def yX9_pathOf : MethodName := ⟨RX9, "pathOf", "(IZ)I"⟩
abbrev cX9_meanMoves : ByteArray := prog_1_method_26_code
def yX9_meanMoves : MethodName := ⟨RX9, "meanMoves", "()D"⟩
abbrev cX9_drawn : ByteArray := prog_1_method_27_code
def yX9_drawn : MethodName := ⟨RX9, "drawn", "()F"⟩
abbrev cX9_account : ByteArray := prog_1_method_28_code
def yX9_account : MethodName := ⟨RX9, "account", "(I)I"⟩
abbrev cX9_append : ByteArray := prog_1_method_29_code
def yX9_append : MethodName := ⟨RX9, "append", "(C)I"⟩
abbrev cX9_commands : ByteArray := prog_1_method_30_code
def yX9_commands : MethodName := ⟨RX9, "commands", "()I"⟩
abbrev cX9_faultPosition : ByteArray := prog_1_method_31_code
def yX9_faultPosition : MethodName := ⟨RX9, "faultPosition", "()I"⟩
abbrev cX9_reason : ByteArray := prog_1_method_32_code
def yX9_reason : MethodName := ⟨RX9, "reason", "(I)I"⟩
abbrev cX9_line : ByteArray := prog_1_method_33_code
def yX9_line : MethodName := ⟨RX9, "line", "()I"⟩
abbrev cX9_character : ByteArray := prog_1_method_34_code
def yX9_character : MethodName := ⟨RX9, "character", "(I)C"⟩
abbrev cX9_undo : ByteArray := prog_1_method_35_code
def yX9_undo : MethodName := ⟨RX9, "undo", "()I"⟩
abbrev cX9_save : ByteArray := prog_1_method_36_code
def yX9_save : MethodName := ⟨RX9, "save", "()I"⟩
abbrev cX9_restore : ByteArray := prog_1_method_37_code
def yX9_restore : MethodName := ⟨RX9, "restore", "()I"⟩
abbrev cX9_addBurrow : ByteArray := prog_1_method_38_code
def yX9_addBurrow : MethodName := ⟨RX9, "addBurrow", "()I"⟩
abbrev cX9_addPath : ByteArray := prog_1_method_39_code
def yX9_addPath : MethodName := ⟨RX9, "addPath", "(II)I"⟩
abbrev cX9_dropPath : ByteArray := prog_1_method_40_code
def yX9_dropPath : MethodName := ⟨RX9, "dropPath", "(II)I"⟩
abbrev cX9_turnTrap : ByteArray := prog_1_method_41_code
def yX9_turnTrap : MethodName := ⟨RX9, "turnTrap", "(IZ)I"⟩
abbrev cX9_setGeese : ByteArray := prog_1_method_42_code
def yX9_setGeese : MethodName := ⟨RX9, "setGeese", "(I)I"⟩
abbrev cX9_startGame : ByteArray := prog_1_method_43_code
def yX9_startGame : MethodName := ⟨RX9, "startGame", "(I)I"⟩
abbrev cX9_makeMove : ByteArray := prog_1_method_44_code
def yX9_makeMove : MethodName := ⟨RX9, "makeMove", "(II)I"⟩
abbrev cX9_letPlay : ByteArray := prog_1_method_45_code
def yX9_letPlay : MethodName := ⟨RX9, "letPlay", "(I)I"⟩
abbrev cX9_takeBack : ByteArray := prog_1_method_46_code
def yX9_takeBack : MethodName := ⟨RX9, "takeBack", "()I"⟩
abbrev cX9_carriedOut : ByteArray := prog_1_method_47_code
def yX9_carriedOut : MethodName := ⟨RX9, "carriedOut", "(I)I"⟩
abbrev cX9_isRefusedFor : ByteArray := prog_1_method_48_code
def yX9_isRefusedFor : MethodName := ⟨RX9, "isRefusedFor", "(I)Z"⟩
abbrev cX9_refused : ByteArray := prog_1_method_49_code
def yX9_refused : MethodName := ⟨RX9, "refused", "(II)I"⟩
abbrev cX9_setAside : ByteArray := prog_1_method_50_code
def yX9_setAside : MethodName := ⟨RX9, "setAside", "()V"⟩
abbrev cX9_settled : ByteArray := prog_1_method_51_code
def yX9_settled : MethodName := ⟨RX9, "settled", "(I)I"⟩
abbrev cX9_markChanged : ByteArray := prog_1_method_52_code
def yX9_markChanged : MethodName := ⟨RX9, "markChanged", "()V"⟩
abbrev cX9_newVersion : ByteArray := prog_1_method_53_code
def yX9_newVersion : MethodName := ⟨RX9, "newVersion", "()I"⟩
abbrev cX9_needPosition : ByteArray := prog_1_method_54_code
def yX9_needPosition : MethodName := ⟨RX9, "needPosition", "(I)V"⟩
abbrev cX9_positionsIn : ByteArray := prog_1_method_55_code
def yX9_positionsIn : MethodName := ⟨RX9, "positionsIn", "(I)I"⟩
abbrev cX9_winsOfFoxOn : ByteArray := prog_1_method_56_code
def yX9_winsOfFoxOn : MethodName := ⟨RX9, "winsOfFoxOn", "(I)I"⟩
abbrev cX9_accountOfPositions : ByteArray := prog_1_method_57_code
def yX9_accountOfPositions : MethodName := ⟨RX9, "accountOfPositions", "(I)I"⟩
abbrev cX9_at : ByteArray := prog_1_method_58_code
def yX9_at : MethodName := ⟨RX9, "at", "([II)I"⟩
abbrev cX9_put : ByteArray := prog_1_method_59_code
def yX9_put : MethodName := ⟨RX9, "put", "([III)V"⟩
abbrev cX9_copy : ByteArray := prog_1_method_60_code
def yX9_copy : MethodName := ⟨RX9, "copy", "([I[I)V"⟩
abbrev cX9_numberOf : ByteArray := prog_1_method_61_code
def yX9_numberOf : MethodName := ⟨RX9, "numberOf", "(IIII)I"⟩
abbrev cX9_foxOf : ByteArray := prog_1_method_62_code
def yX9_foxOf : MethodName := ⟨RX9, "foxOf", "(I)I"⟩
abbrev cX9_firstOf : ByteArray := prog_1_method_63_code
def yX9_firstOf : MethodName := ⟨RX9, "firstOf", "(I)I"⟩
abbrev cX9_secondOf : ByteArray := prog_1_method_64_code
def yX9_secondOf : MethodName := ⟨RX9, "secondOf", "(I)I"⟩
abbrev cX9_turnOf : ByteArray := prog_1_method_65_code
def yX9_turnOf : MethodName := ⟨RX9, "turnOf", "(I)I"⟩
abbrev cX9_shifted : ByteArray := prog_1_method_66_code
def yX9_shifted : MethodName := ⟨RX9, "shifted", "(III)I"⟩
abbrev cX9_moveNumber : ByteArray := prog_1_method_67_code
def yX9_moveNumber : MethodName := ⟨RX9, "moveNumber", "(II)I"⟩
abbrev cX9_fromOf : ByteArray := prog_1_method_68_code
def yX9_fromOf : MethodName := ⟨RX9, "fromOf", "(I)I"⟩
abbrev cX9_toOf : ByteArray := prog_1_method_69_code
def yX9_toOf : MethodName := ⟨RX9, "toOf", "(I)I"⟩
abbrev cX9_firstMove : ByteArray := prog_1_method_70_code
def yX9_firstMove : MethodName := ⟨RX9, "firstMove", "(J)I"⟩
abbrev cX9_withoutFirst : ByteArray := prog_1_method_71_code
def yX9_withoutFirst : MethodName := ⟨RX9, "withoutFirst", "(J)J"⟩
abbrev cX9_above : ByteArray := prog_1_method_72_code
def yX9_above : MethodName := ⟨RX9, "above", "(I)I"⟩
abbrev cX9_below : ByteArray := prog_1_method_73_code
def yX9_below : MethodName := ⟨RX9, "below", "(I)I"⟩
abbrev cX9_bitOf : ByteArray := prog_1_method_74_code
def yX9_bitOf : MethodName := ⟨RX9, "bitOf", "(I)I"⟩
def RX10 : String := "FoxBurrowsModel"
def TX10 : u_T := fun k => match k with
  | _ => ("", "", "", false)
def tyX10 : Nat → FieldType := fun k => match k with
  | _ => .int
theorem nmX10 : ∀ a, a < 0 → ∀ b, b < 0 → a ≠ b → (TX10 a).2.1 ≠ (TX10 b).2.1 := by decide +kernel
theorem tyX10_ok : ∀ k, k < 0 → parseFieldDescriptor (TX10 k).2.2.1 = some (tyX10 k) := by decide +kernel
def RJx145de : String := "java/io/Serializable"
def TJx145de : u_T := fun k => match k with
  | _ => ("", "", "", false)
def tyJx145de : Nat → FieldType := fun k => match k with
  | _ => .int
theorem nmJx145de : ∀ a, a < 0 → ∀ b, b < 0 → a ≠ b → (TJx145de a).2.1 ≠ (TJx145de b).2.1 := by decide +kernel
theorem tyJx145de_ok : ∀ k, k < 0 → parseFieldDescriptor (TJx145de k).2.2.1 = some (tyJx145de k) := by decide +kernel
def RJ5 : String := "java/lang/AbstractStringBuilder"
def TJ5 : u_T := fun k => match k with
  | _ => ("", "", "", false)
def tyJ5 : Nat → FieldType := fun k => match k with
  | _ => .int
theorem nmJ5 : ∀ a, a < 0 → ∀ b, b < 0 → a ≠ b → (TJ5 a).2.1 ≠ (TJ5 b).2.1 := by decide +kernel
theorem tyJ5_ok : ∀ k, k < 0 → parseFieldDescriptor (TJ5 k).2.2.1 = some (tyJ5 k) := by decide +kernel
abbrev cJ5_init_d00df : ByteArray := prog_14_method_2_code
def yJ5_init_d00df : MethodName := ⟨RJ5, "<init>", "(I)V"⟩
abbrev cJ5_length_8abf5 : ByteArray := prog_14_method_6_code
def yJ5_length_8abf5 : MethodName := ⟨RJ5, "length", "()I"⟩
abbrev cJ5_ensureCapacityInternal_d00df : ByteArray := prog_14_method_9_code
def yJ5_ensureCapacityInternal_d00df : MethodName := ⟨RJ5, "ensureCapacityInternal", "(I)V"⟩
abbrev cJ5_newCapacity_0f7a4 : ByteArray := prog_14_method_10_code
def yJ5_newCapacity_0f7a4 : MethodName := ⟨RJ5, "newCapacity", "(I)I"⟩
abbrev cJ5_inflate_da8c8 : ByteArray := prog_14_method_11_code
def yJ5_inflate_da8c8 : MethodName := ⟨RJ5, "inflate", "()V"⟩
abbrev cJ5_append_cf1ce : ByteArray := prog_14_method_22_code
def yJ5_append_cf1ce : MethodName := ⟨RJ5, "append", "(Ljava/lang/String;)Ljava/lang/AbstractStringBuilder;"⟩
abbrev cJ5_appendNull_278bc : ByteArray := prog_14_method_26_code
def yJ5_appendNull_278bc : MethodName := ⟨RJ5, "appendNull", "()Ljava/lang/AbstractStringBuilder;"⟩
abbrev cJ5_append_c97b9 : ByteArray := prog_14_method_32_code
def yJ5_append_c97b9 : MethodName := ⟨RJ5, "append", "(I)Ljava/lang/AbstractStringBuilder;"⟩
abbrev cJ5_getValue_6d5f1 : ByteArray := prog_14_method_64_code
def yJ5_getValue_6d5f1 : MethodName := ⟨RJ5, "getValue", "()[B"⟩
abbrev cJ5_isLatin1_aae02 : ByteArray := prog_14_method_68_code
def yJ5_isLatin1_aae02 : MethodName := ⟨RJ5, "isLatin1", "()Z"⟩
abbrev cJ5_inflateIfNeededFor_a7421 : ByteArray := prog_14_method_71_code
def yJ5_inflateIfNeededFor_a7421 : MethodName := ⟨RJ5, "inflateIfNeededFor", "(Ljava/lang/String;)V"⟩
abbrev cJ5_putStringAt_47b60 : ByteArray := prog_14_method_73_code
def yJ5_putStringAt_47b60 : MethodName := ⟨RJ5, "putStringAt", "(ILjava/lang/String;)V"⟩
def RJx2cfe8 : String := "java/lang/Appendable"
def TJx2cfe8 : u_T := fun k => match k with
  | _ => ("", "", "", false)
def tyJx2cfe8 : Nat → FieldType := fun k => match k with
  | _ => .int
theorem nmJx2cfe8 : ∀ a, a < 0 → ∀ b, b < 0 → a ≠ b → (TJx2cfe8 a).2.1 ≠ (TJx2cfe8 b).2.1 := by decide +kernel
theorem tyJx2cfe8_ok : ∀ k, k < 0 → parseFieldDescriptor (TJx2cfe8 k).2.2.1 = some (tyJx2cfe8 k) := by decide +kernel
def RJx00060 : String := "java/lang/ArrayIndexOutOfBoundsException"
def TJx00060 : u_T := fun k => match k with
  | 0 => ("java/lang/Throwable", "backtrace", "Ljava/lang/Object;", false)
  | 1 => ("java/lang/Throwable", "detailMessage", "Ljava/lang/String;", false)
  | 2 => ("java/lang/Throwable", "cause", "Ljava/lang/Throwable;", false)
  | 3 => ("java/lang/Throwable", "stackTrace", "[Ljava/lang/StackTraceElement;", false)
  | 4 => ("java/lang/Throwable", "depth", "I", false)
  | _ => ("java/lang/Throwable", "suppressedExceptions", "Ljava/util/List;", false)
def tyJx00060 : Nat → FieldType := fun k => match k with
  | 0 => .object "java/lang/Object"
  | 1 => .object "java/lang/String"
  | 2 => .object "java/lang/Throwable"
  | 3 => .array (.object "java/lang/StackTraceElement")
  | 4 => .int
  | _ => .object "java/util/List"
theorem nmJx00060 : ∀ a, a < 6 → ∀ b, b < 6 → a ≠ b → (TJx00060 a).2.1 ≠ (TJx00060 b).2.1 := by decide +kernel
theorem tyJx00060_ok : ∀ k, k < 6 → parseFieldDescriptor (TJx00060 k).2.2.1 = some (tyJx00060 k) := by decide +kernel
abbrev cJx00060_init_a7421 : ByteArray := prog_17_method_2_code
def yJx00060_init_a7421 : MethodName := ⟨RJx00060, "<init>", "(Ljava/lang/String;)V"⟩
def RJx9f9b0 : String := "java/lang/CharSequence"
def TJx9f9b0 : u_T := fun k => match k with
  | _ => ("", "", "", false)
def tyJx9f9b0 : Nat → FieldType := fun k => match k with
  | _ => .int
theorem nmJx9f9b0 : ∀ a, a < 0 → ∀ b, b < 0 → a ≠ b → (TJx9f9b0 a).2.1 ≠ (TJx9f9b0 b).2.1 := by decide +kernel
theorem tyJx9f9b0_ok : ∀ k, k < 0 → parseFieldDescriptor (TJx9f9b0 k).2.2.1 = some (tyJx9f9b0 k) := by decide +kernel
def RJx8e188 : String := "java/lang/Cloneable"
def TJx8e188 : u_T := fun k => match k with
  | _ => ("", "", "", false)
def tyJx8e188 : Nat → FieldType := fun k => match k with
  | _ => .int
theorem nmJx8e188 : ∀ a, a < 0 → ∀ b, b < 0 → a ≠ b → (TJx8e188 a).2.1 ≠ (TJx8e188 b).2.1 := by decide +kernel
theorem tyJx8e188_ok : ∀ k, k < 0 → parseFieldDescriptor (TJx8e188 k).2.2.1 = some (tyJx8e188 k) := by decide +kernel
def RJxb160c : String := "java/lang/Comparable"
def TJxb160c : u_T := fun k => match k with
  | _ => ("", "", "", false)
def tyJxb160c : Nat → FieldType := fun k => match k with
  | _ => .int
theorem nmJxb160c : ∀ a, a < 0 → ∀ b, b < 0 → a ≠ b → (TJxb160c a).2.1 ≠ (TJxb160c b).2.1 := by decide +kernel
theorem tyJxb160c_ok : ∀ k, k < 0 → parseFieldDescriptor (TJxb160c k).2.2.1 = some (tyJxb160c k) := by decide +kernel
def RJxe99ae : String := "java/lang/Double"
def TJxe99ae : u_T := fun k => match k with
  | _ => ("", "", "", false)
def tyJxe99ae : Nat → FieldType := fun k => match k with
  | _ => .int
theorem nmJxe99ae : ∀ a, a < 0 → ∀ b, b < 0 → a ≠ b → (TJxe99ae a).2.1 ≠ (TJxe99ae b).2.1 := by decide +kernel
theorem tyJxe99ae_ok : ∀ k, k < 0 → parseFieldDescriptor (TJxe99ae k).2.2.1 = some (tyJxe99ae k) := by decide +kernel
abbrev cJxe99ae_isNaN_b9ae7 : ByteArray := prog_21_method_6_code
def yJxe99ae_isNaN_b9ae7 : MethodName := ⟨RJxe99ae, "isNaN", "(D)Z"⟩
abbrev cJxe99ae_doubleToLongBits_ccdee : ByteArray := prog_21_method_23_code
def yJxe99ae_doubleToLongBits_ccdee : MethodName := ⟨RJxe99ae, "doubleToLongBits", "(D)J"⟩
def RJxf58ca : String := "java/lang/Float"
def TJxf58ca : u_T := fun k => match k with
  | _ => ("", "", "", false)
def tyJxf58ca : Nat → FieldType := fun k => match k with
  | _ => .int
theorem nmJxf58ca : ∀ a, a < 0 → ∀ b, b < 0 → a ≠ b → (TJxf58ca a).2.1 ≠ (TJxf58ca b).2.1 := by decide +kernel
theorem tyJxf58ca_ok : ∀ k, k < 0 → parseFieldDescriptor (TJxf58ca k).2.2.1 = some (tyJxf58ca k) := by decide +kernel
abbrev cJxf58ca_isNaN_12338 : ByteArray := prog_23_method_6_code
def yJxf58ca_isNaN_12338 : MethodName := ⟨RJxf58ca, "isNaN", "(F)Z"⟩
abbrev cJxf58ca_floatToIntBits_5c35a : ByteArray := prog_23_method_24_code
def yJxf58ca_floatToIntBits_5c35a : MethodName := ⟨RJxf58ca, "floatToIntBits", "(F)I"⟩
def RJ6 : String := "java/lang/Integer"
def TJ6 : u_T := fun k => match k with
  | _ => ("", "", "", false)
def tyJ6 : Nat → FieldType := fun k => match k with
  | _ => .int
theorem nmJ6 : ∀ a, a < 0 → ∀ b, b < 0 → a ≠ b → (TJ6 a).2.1 ≠ (TJ6 b).2.1 := by decide +kernel
theorem tyJ6_ok : ∀ k, k < 0 → parseFieldDescriptor (TJ6 k).2.2.1 = some (tyJ6 k) := by decide +kernel
abbrev cJ6_getChars_ba4f3 : ByteArray := prog_27_method_12_code
def yJ6_getChars_ba4f3 : MethodName := ⟨RJ6, "getChars", "(II[B)I"⟩
abbrev cJ6_stringSize_0f7a4 : ByteArray := prog_27_method_13_code
def yJ6_stringSize_0f7a4 : MethodName := ⟨RJ6, "stringSize", "(I)I"⟩
abbrev cJ6_bitCount_0f7a4 : ByteArray := prog_27_method_49_code
def yJ6_bitCount_0f7a4 : MethodName := ⟨RJ6, "bitCount", "(I)I"⟩
def RJ13 : String := "java/lang/Long"
def TJ13 : u_T := fun k => match k with
  | _ => ("", "", "", false)
def tyJ13 : Nat → FieldType := fun k => match k with
  | _ => .int
theorem nmJ13 : ∀ a, a < 0 → ∀ b, b < 0 → a ≠ b → (TJ13 a).2.1 ≠ (TJ13 b).2.1 := by decide +kernel
theorem tyJ13_ok : ∀ k, k < 0 → parseFieldDescriptor (TJ13 k).2.2.1 = some (tyJ13 k) := by decide +kernel
abbrev cJ13_bitCount_95d88 : ByteArray := prog_28_method_50_code
def yJ13_bitCount_95d88 : MethodName := ⟨RJ13, "bitCount", "(J)I"⟩
def RJ9 : String := "java/lang/Math"
def TJ9 : u_T := fun k => match k with
  | _ => ("", "", "", false)
def tyJ9 : Nat → FieldType := fun k => match k with
  | _ => .int
theorem nmJ9 : ∀ a, a < 0 → ∀ b, b < 0 → a ≠ b → (TJ9 a).2.1 ≠ (TJ9 b).2.1 := by decide +kernel
theorem tyJ9_ok : ∀ k, k < 0 → parseFieldDescriptor (TJ9 k).2.2.1 = some (tyJ9 k) := by decide +kernel
abbrev cJ9_max_7cf53 : ByteArray := prog_29_method_65_code
def yJ9_max_7cf53 : MethodName := ⟨RJ9, "max", "(II)I"⟩
abbrev cJ9_min_7cf53 : ByteArray := prog_29_method_69_code
def yJ9_min_7cf53 : MethodName := ⟨RJ9, "min", "(II)I"⟩
def RJxd2413 : String := "java/lang/Number"
def TJxd2413 : u_T := fun k => match k with
  | _ => ("", "", "", false)
def tyJxd2413 : Nat → FieldType := fun k => match k with
  | _ => .int
theorem nmJxd2413 : ∀ a, a < 0 → ∀ b, b < 0 → a ≠ b → (TJxd2413 a).2.1 ≠ (TJxd2413 b).2.1 := by decide +kernel
theorem tyJxd2413_ok : ∀ k, k < 0 → parseFieldDescriptor (TJxd2413 k).2.2.1 = some (tyJxd2413 k) := by decide +kernel
def RJ0 : String := "java/lang/String"
def TJ0 : u_T := fun k => match k with
  | 0 => ("java/lang/String", "value", "[B", true)
  | 1 => ("java/lang/String", "coder", "B", true)
  | 2 => ("java/lang/String", "hash", "I", false)
  | _ => ("java/lang/String", "hashIsZero", "Z", false)
def tyJ0 : Nat → FieldType := fun k => match k with
  | 0 => .array .byte
  | 1 => .byte
  | 2 => .int
  | _ => .boolean
theorem nmJ0 : ∀ a, a < 4 → ∀ b, b < 4 → a ≠ b → (TJ0 a).2.1 ≠ (TJ0 b).2.1 := by decide +kernel
theorem tyJ0_ok : ∀ k, k < 4 → parseFieldDescriptor (TJ0 k).2.2.1 = some (tyJ0 k) := by decide +kernel
abbrev cJ0_init_81219 : ByteArray := prog_32_method_53_code
def yJ0_init_81219 : MethodName := ⟨RJ0, "<init>", "(Ljava/lang/StringBuilder;)V"⟩
abbrev cJ0_length_8abf5 : ByteArray := prog_32_method_54_code
def yJ0_length_8abf5 : MethodName := ⟨RJ0, "length", "()I"⟩
abbrev cJ0_charAt_5068e : ByteArray := prog_32_method_56_code
def yJ0_charAt_5068e : MethodName := ⟨RJ0, "charAt", "(I)C"⟩
abbrev cJ0_getBytes_840e7 : ByteArray := prog_32_method_147_code
def yJ0_getBytes_840e7 : MethodName := ⟨RJ0, "getBytes", "([BIB)V"⟩
abbrev cJ0_init_db425 : ByteArray := prog_32_method_150_code
def yJ0_init_db425 : MethodName := ⟨RJ0, "<init>", "(Ljava/lang/AbstractStringBuilder;Ljava/lang/Void;)V"⟩
abbrev cJ0_coder_7d493 : ByteArray := prog_32_method_152_code
def yJ0_coder_7d493 : MethodName := ⟨RJ0, "coder", "()B"⟩
abbrev cJ0_isLatin1_aae02 : ByteArray := prog_32_method_154_code
def yJ0_isLatin1_aae02 : MethodName := ⟨RJ0, "isLatin1", "()Z"⟩
abbrev cJ0_checkIndex_df160 : ByteArray := prog_32_method_155_code
def yJ0_checkIndex_df160 : MethodName := ⟨RJ0, "checkIndex", "(II)V"⟩
abbrev cJ0_checkBoundsOffCount_cabcc : ByteArray := prog_32_method_157_code
def yJ0_checkBoundsOffCount_cabcc : MethodName := ⟨RJ0, "checkBoundsOffCount", "(III)I"⟩
abbrev cJ0_checkBoundsBeginEnd_23922 : ByteArray := prog_32_method_158_code
def yJ0_checkBoundsBeginEnd_23922 : MethodName := ⟨RJ0, "checkBoundsBeginEnd", "(III)V"⟩
def RJ4 : String := "java/lang/StringBuilder"
def TJ4 : u_T := fun k => match k with
  | 0 => ("java/lang/AbstractStringBuilder", "value", "[B", false)
  | 1 => ("java/lang/AbstractStringBuilder", "coder", "B", false)
  | 2 => ("java/lang/AbstractStringBuilder", "maybeLatin1", "Z", false)
  | _ => ("java/lang/AbstractStringBuilder", "count", "I", false)
def tyJ4 : Nat → FieldType := fun k => match k with
  | 0 => .array .byte
  | 1 => .byte
  | 2 => .boolean
  | _ => .int
theorem nmJ4 : ∀ a, a < 4 → ∀ b, b < 4 → a ≠ b → (TJ4 a).2.1 ≠ (TJ4 b).2.1 := by decide +kernel
theorem tyJ4_ok : ∀ k, k < 4 → parseFieldDescriptor (TJ4 k).2.2.1 = some (tyJ4 k) := by decide +kernel
abbrev cJ4_init_da8c8 : ByteArray := prog_33_method_1_code
def yJ4_init_da8c8 : MethodName := ⟨RJ4, "<init>", "()V"⟩
abbrev cJ4_append_15ec4 : ByteArray := prog_33_method_7_code
def yJ4_append_15ec4 : MethodName := ⟨RJ4, "append", "(Ljava/lang/String;)Ljava/lang/StringBuilder;"⟩
abbrev cJ4_append_bf812 : ByteArray := prog_33_method_15_code
def yJ4_append_bf812 : MethodName := ⟨RJ4, "append", "(I)Ljava/lang/StringBuilder;"⟩
abbrev cJ4_toString_0e30d : ByteArray := prog_33_method_42_code
def yJ4_toString_0e30d : MethodName := ⟨RJ4, "toString", "()Ljava/lang/String;"⟩
abbrev cJ4_length_8abf5 : ByteArray := prog_33_method_93_code
def yJ4_length_8abf5 : MethodName := ⟨RJ4, "length", "()I"⟩
def RJ1 : String := "java/lang/StringLatin1"
def TJ1 : u_T := fun k => match k with
  | _ => ("", "", "", false)
def tyJ1 : Nat → FieldType := fun k => match k with
  | _ => .int
theorem nmJ1 : ∀ a, a < 0 → ∀ b, b < 0 → a ≠ b → (TJ1 a).2.1 ≠ (TJ1 b).2.1 := by decide +kernel
theorem tyJ1_ok : ∀ k, k < 0 → parseFieldDescriptor (TJ1 k).2.2.1 = some (tyJ1 k) := by decide +kernel
abbrev cJ1_charAt_3b067 : ByteArray := prog_34_method_2_code
def yJ1_charAt_3b067 : MethodName := ⟨RJ1, "charAt", "([BI)C"⟩
abbrev cJ1_inflate_0e8fd : ByteArray := prog_34_method_50_code
def yJ1_inflate_0e8fd : MethodName := ⟨RJ1, "inflate", "([BI[BII)V"⟩
def RJ2 : String := "java/lang/StringUTF16"
def TJ2 : u_T := fun k => match k with
  | _ => ("", "", "", false)
def tyJ2 : Nat → FieldType := fun k => match k with
  | _ => .int
theorem nmJ2 : ∀ a, a < 0 → ∀ b, b < 0 → a ≠ b → (TJ2 a).2.1 ≠ (TJ2 b).2.1 := by decide +kernel
theorem tyJ2_ok : ∀ k, k < 0 → parseFieldDescriptor (TJ2 k).2.2.1 = some (tyJ2 k) := by decide +kernel
abbrev cJ2_newBytesFor_77867 : ByteArray := prog_35_method_2_code
def yJ2_newBytesFor_77867 : MethodName := ⟨RJ2, "newBytesFor", "(I)[B"⟩
abbrev cJ2_newBytesLength_0f7a4 : ByteArray := prog_35_method_3_code
def yJ2_newBytesLength_0f7a4 : MethodName := ⟨RJ2, "newBytesLength", "(I)I"⟩
abbrev cJ2_putChar_b72d1 : ByteArray := prog_35_method_4_code
def yJ2_putChar_b72d1 : MethodName := ⟨RJ2, "putChar", "([BII)V"⟩
abbrev cJ2_getChar_3b067 : ByteArray := prog_35_method_5_code
def yJ2_getChar_3b067 : MethodName := ⟨RJ2, "getChar", "([BI)C"⟩
abbrev cJ2_length_9d52b : ByteArray := prog_35_method_6_code
def yJ2_length_9d52b : MethodName := ⟨RJ2, "length", "([B)I"⟩
abbrev cJ2_coderFromArrayLen_85cad : ByteArray := prog_35_method_15_code
def yJ2_coderFromArrayLen_85cad : MethodName := ⟨RJ2, "coderFromArrayLen", "([BI)B"⟩
abbrev cJ2_compress_39247 : ByteArray := prog_35_method_17_code
def yJ2_compress_39247 : MethodName := ⟨RJ2, "compress", "([BII)[B"⟩
abbrev cJ2_compress_5af95 : ByteArray := prog_35_method_22_code
def yJ2_compress_5af95 : MethodName := ⟨RJ2, "compress", "([BI[BII)I"⟩
abbrev cJ2_getChars_46870 : ByteArray := prog_35_method_77_code
def yJ2_getChars_46870 : MethodName := ⟨RJ2, "getChars", "(III[B)I"⟩
abbrev cJ2_putCharsAt_cd4e5 : ByteArray := prog_35_method_81_code
def yJ2_putCharsAt_cd4e5 : MethodName := ⟨RJ2, "putCharsAt", "([BICCCC)I"⟩
abbrev cJ2_charAt_3b067 : ByteArray := prog_35_method_83_code
def yJ2_charAt_3b067 : MethodName := ⟨RJ2, "charAt", "([BI)C"⟩
abbrev cJ2_inflate_0e8fd : ByteArray := prog_35_method_86_code
def yJ2_inflate_0e8fd : MethodName := ⟨RJ2, "inflate", "([BI[BII)V"⟩
abbrev cJ2_getChars_ba4f3 : ByteArray := prog_35_method_89_code
def yJ2_getChars_ba4f3 : MethodName := ⟨RJ2, "getChars", "(II[B)I"⟩
abbrev cJ2_checkIndex_2214a : ByteArray := prog_35_method_91_code
def yJ2_checkIndex_2214a : MethodName := ⟨RJ2, "checkIndex", "(I[B)V"⟩
abbrev cJ2_checkBoundsBeginEnd_d044e : ByteArray := prog_35_method_93_code
def yJ2_checkBoundsBeginEnd_d044e : MethodName := ⟨RJ2, "checkBoundsBeginEnd", "(II[B)V"⟩
abbrev cJ2_checkBoundsOffCount_d044e : ByteArray := prog_35_method_94_code
def yJ2_checkBoundsOffCount_d044e : MethodName := ⟨RJ2, "checkBoundsOffCount", "(II[B)V"⟩
def RJ10 : String := "java/lang/System"
def TJ10 : u_T := fun k => match k with
  | _ => ("", "", "", false)
def tyJ10 : Nat → FieldType := fun k => match k with
  | _ => .int
theorem nmJ10 : ∀ a, a < 0 → ∀ b, b < 0 → a ≠ b → (TJ10 a).2.1 ≠ (TJ10 b).2.1 := by decide +kernel
theorem tyJ10_ok : ∀ k, k < 0 → parseFieldDescriptor (TJ10 k).2.2.1 = some (tyJ10 k) := by decide +kernel
def RJxfd54e : String := "java/lang/constant/Constable"
def TJxfd54e : u_T := fun k => match k with
  | _ => ("", "", "", false)
def tyJxfd54e : Nat → FieldType := fun k => match k with
  | _ => .int
theorem nmJxfd54e : ∀ a, a < 0 → ∀ b, b < 0 → a ≠ b → (TJxfd54e a).2.1 ≠ (TJxfd54e b).2.1 := by decide +kernel
theorem tyJxfd54e_ok : ∀ k, k < 0 → parseFieldDescriptor (TJxfd54e k).2.2.1 = some (tyJxfd54e k) := by decide +kernel
def RJx3cf43 : String := "java/lang/constant/ConstantDesc"
def TJx3cf43 : u_T := fun k => match k with
  | _ => ("", "", "", false)
def tyJx3cf43 : Nat → FieldType := fun k => match k with
  | _ => .int
theorem nmJx3cf43 : ∀ a, a < 0 → ∀ b, b < 0 → a ≠ b → (TJx3cf43 a).2.1 ≠ (TJx3cf43 b).2.1 := by decide +kernel
theorem tyJx3cf43_ok : ∀ k, k < 0 → parseFieldDescriptor (TJx3cf43 k).2.2.1 = some (tyJx3cf43 k) := by decide +kernel
def RJ7 : String := "java/util/Arrays"
def TJ7 : u_T := fun k => match k with
  | _ => ("", "", "", false)
def tyJ7 : Nat → FieldType := fun k => match k with
  | _ => .int
theorem nmJ7 : ∀ a, a < 0 → ∀ b, b < 0 → a ≠ b → (TJ7 a).2.1 ≠ (TJ7 b).2.1 := by decide +kernel
theorem tyJ7_ok : ∀ k, k < 0 → parseFieldDescriptor (TJ7 k).2.2.1 = some (tyJ7 k) := by decide +kernel
abbrev cJ7_copyOf_9075b : ByteArray := prog_41_method_121_code
def yJ7_copyOf_9075b : MethodName := ⟨RJ7, "copyOf", "([BI)[B"⟩
abbrev cJ7_checkLength_df160 : ByteArray := prog_41_method_131_code
def yJ7_checkLength_df160 : MethodName := ⟨RJ7, "checkLength", "(II)V"⟩
abbrev cJ7_copyOfRange_39247 : ByteArray := prog_41_method_132_code
def yJ7_copyOfRange_39247 : MethodName := ⟨RJ7, "copyOfRange", "([BII)[B"⟩
abbrev cJ7_copyOfRangeByte_39247 : ByteArray := prog_41_method_133_code
def yJ7_copyOfRangeByte_39247 : MethodName := ⟨RJ7, "copyOfRangeByte", "([BII)[B"⟩
def RJ8 : String := "jdk/internal/util/ArraysSupport"
def TJ8 : u_T := fun k => match k with
  | _ => ("", "", "", false)
def tyJ8 : Nat → FieldType := fun k => match k with
  | _ => .int
theorem nmJ8 : ∀ a, a < 0 → ∀ b, b < 0 → a ≠ b → (TJ8 a).2.1 ≠ (TJ8 b).2.1 := by decide +kernel
theorem tyJ8_ok : ∀ k, k < 0 → parseFieldDescriptor (TJ8 k).2.2.1 = some (tyJ8 k) := by decide +kernel
abbrev cJ8_newLength_cabcc : ByteArray := prog_43_method_27_code
def yJ8_newLength_cabcc : MethodName := ⟨RJ8, "newLength", "(III)I"⟩
abbrev cJ8_hugeLength_7cf53 : ByteArray := prog_43_method_28_code
def yJ8_hugeLength_7cf53 : MethodName := ⟨RJ8, "hugeLength", "(II)I"⟩
def RJ3 : String := "jdk/internal/util/Preconditions"
def TJ3 : u_T := fun k => match k with
  | _ => ("", "", "", false)
def tyJ3 : Nat → FieldType := fun k => match k with
  | _ => .int
theorem nmJ3 : ∀ a, a < 0 → ∀ b, b < 0 → a ≠ b → (TJ3 a).2.1 ≠ (TJ3 b).2.1 := by decide +kernel
theorem tyJ3_ok : ∀ k, k < 0 → parseFieldDescriptor (TJ3 k).2.2.1 = some (tyJ3 k) := by decide +kernel
abbrev cJ3_checkIndex_8e157 : ByteArray := prog_44_method_11_code
def yJ3_checkIndex_8e157 : MethodName := ⟨RJ3, "checkIndex", "(IILjava/util/function/BiFunction;)I"⟩
abbrev cJ3_checkFromToIndex_8c36e : ByteArray := prog_44_method_12_code
def yJ3_checkFromToIndex_8c36e : MethodName := ⟨RJ3, "checkFromToIndex", "(IIILjava/util/function/BiFunction;)I"⟩
abbrev cJ3_checkFromIndexSize_8c36e : ByteArray := prog_44_method_13_code
def yJ3_checkFromIndexSize_8c36e : MethodName := ⟨RJ3, "checkFromIndexSize", "(IIILjava/util/function/BiFunction;)I"⟩
def RL : String := "FoxBurrowsLaw"
abbrev cL_at : ByteArray := method_2_code
def yL_at : MethodName := ⟨RL, "at", "([II)I"⟩
abbrev cL_some : ByteArray := method_3_code
def yL_some : MethodName := ⟨RL, "some", "(II)I"⟩
abbrev cL_dig : ByteArray := method_4_code
def yL_dig : MethodName := ⟨RL, "dig", "(LFoxBurrows;)I"⟩
abbrev cL_tread : ByteArray := method_5_code
def yL_tread : MethodName := ⟨RL, "tread", "(LFoxBurrows;II)I"⟩
abbrev cL_grow : ByteArray := method_6_code
def yL_grow : MethodName := ⟨RL, "grow", "(LFoxBurrows;II)I"⟩
abbrev cL_trap : ByteArray := method_7_code
def yL_trap : MethodName := ⟨RL, "trap", "(LFoxBurrows;IZ)I"⟩
abbrev cL_flock : ByteArray := method_8_code
def yL_flock : MethodName := ⟨RL, "flock", "(LFoxBurrows;I)I"⟩
abbrev cL_begin : ByteArray := method_9_code
def yL_begin : MethodName := ⟨RL, "begin", "(LFoxBurrows;I)I"⟩
abbrev cL_move : ByteArray := method_10_code
def yL_move : MethodName := ⟨RL, "move", "(LFoxBurrows;II)I"⟩
abbrev cL_play : ByteArray := method_11_code
def yL_play : MethodName := ⟨RL, "play", "(LFoxBurrows;I)I"⟩
abbrev cL_back : ByteArray := method_12_code
def yL_back : MethodName := ⟨RL, "back", "(LFoxBurrows;)I"⟩
abbrev cL_position : ByteArray := method_13_code
def yL_position : MethodName := ⟨RL, "position", "(LFoxBurrows;IIIZ)I"⟩
abbrev cL_positionOf : ByteArray := method_14_code
def yL_positionOf : MethodName := ⟨RL, "positionOf", "(LFoxBurrows;II)I"⟩
abbrev cL_outcomeAgain : ByteArray := method_15_code
def yL_outcomeAgain : MethodName := ⟨RL, "outcomeAgain", "(LFoxBurrows;I)I"⟩
abbrev cL_moveOf : ByteArray := method_16_code
def yL_moveOf : MethodName := ⟨RL, "moveOf", "(LFoxBurrows;IIZ)I"⟩
abbrev cL_best : ByteArray := method_17_code
def yL_best : MethodName := ⟨RL, "best", "(LFoxBurrows;I)I"⟩
abbrev cL_after : ByteArray := method_18_code
def yL_after : MethodName := ⟨RL, "after", "(LFoxBurrows;III)I"⟩
abbrev cL_ending : ByteArray := method_19_code
def yL_ending : MethodName := ⟨RL, "ending", "(LFoxBurrows;I)I"⟩
abbrev cL_count : ByteArray := method_20_code
def yL_count : MethodName := ⟨RL, "count", "(LFoxBurrows;IZ)I"⟩
abbrev cL_longest : ByteArray := method_21_code
def yL_longest : MethodName := ⟨RL, "longest", "(LFoxBurrows;Z)I"⟩
abbrev cL_wonIn : ByteArray := method_22_code
def yL_wonIn : MethodName := ⟨RL, "wonIn", "(LFoxBurrows;I)I"⟩
abbrev cL_wouldChange : ByteArray := method_23_code
def yL_wouldChange : MethodName := ⟨RL, "wouldChange", "(LFoxBurrows;II)I"⟩
abbrev cL_bestBurrow : ByteArray := method_24_code
def yL_bestBurrow : MethodName := ⟨RL, "bestBurrow", "(LFoxBurrows;I)I"⟩
abbrev cL_burrowOf : ByteArray := method_25_code
def yL_burrowOf : MethodName := ⟨RL, "burrowOf", "(LFoxBurrows;II)I"⟩
abbrev cL_pathOf : ByteArray := method_26_code
def yL_pathOf : MethodName := ⟨RL, "pathOf", "(LFoxBurrows;IZ)I"⟩
abbrev cL_now : ByteArray := method_27_code
def yL_now : MethodName := ⟨RL, "now", "(LFoxBurrows;)I"⟩
abbrev cL_append : ByteArray := method_28_code
def yL_append : MethodName := ⟨RL, "append", "(LFoxBurrows;C)I"⟩
abbrev cL_commands : ByteArray := method_29_code
def yL_commands : MethodName := ⟨RL, "commands", "(LFoxBurrows;)I"⟩
abbrev cL_reason : ByteArray := method_30_code
def yL_reason : MethodName := ⟨RL, "reason", "(LFoxBurrows;I)I"⟩
abbrev cL_character : ByteArray := method_31_code
def yL_character : MethodName := ⟨RL, "character", "(LFoxBurrows;I)I"⟩
abbrev cL_meanMoves : ByteArray := method_32_code
def yL_meanMoves : MethodName := ⟨RL, "meanMoves", "(LFoxBurrows;)D"⟩
abbrev cL_drawn : ByteArray := method_33_code
def yL_drawn : MethodName := ⟨RL, "drawn", "(LFoxBurrows;)F"⟩
abbrev cL_account : ByteArray := method_34_code
def yL_account : MethodName := ⟨RL, "account", "(LFoxBurrows;I)I"⟩
abbrev cL_undo : ByteArray := method_35_code
def yL_undo : MethodName := ⟨RL, "undo", "(LFoxBurrows;)I"⟩
abbrev cL_restore : ByteArray := method_36_code
def yL_restore : MethodName := ⟨RL, "restore", "(LFoxBurrows;)I"⟩
abbrev cL_does : ByteArray := method_37_code
def yL_does : MethodName := ⟨RL, "does", "(LFoxBurrows;Ljava/lang/String;)I"⟩
abbrev cL_is : ByteArray := method_38_code
def yL_is : MethodName := ⟨RL, "is", "(LFoxBurrows;III)Z"⟩
abbrev cL_makes : ByteArray := method_40_code
def yL_makes : MethodName := ⟨RL, "makes", "(LFoxBurrows;[I)Z"⟩
abbrev cL_asks : ByteArray := method_41_code
def yL_asks : MethodName := ⟨RL, "asks", "(LFoxBurrows;)J"⟩
abbrev cL_changes : ByteArray := method_42_code
def yL_changes : MethodName := ⟨RL, "changes", "(LFoxBurrows;I)Z"⟩
abbrev cL_refused : ByteArray := method_43_code
def yL_refused : MethodName := ⟨RL, "refused", "(LFoxBurrows;)Z"⟩
abbrev cL_e : ByteArray := method_44_code
def yL_e : MethodName := ⟨RL, "e", "(LFoxBurrows;I)Z"⟩
abbrev cL_law : ByteArray := code
def yL_law : MethodName := ⟨RL, "law", "([I)Z"⟩
