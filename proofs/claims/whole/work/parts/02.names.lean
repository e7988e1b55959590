def RX0 : String := "AsInBertha$Changes"
def TX0 : u_T := fun k => match k with
  | 0 => ("AsInBertha$Changes", "numbers", "[I", true)
  | 1 => ("AsInBertha$Changes", "kinds", "[I", true)
  | 2 => ("AsInBertha$Changes", "before", "[I", true)
  | 3 => ("AsInBertha$Changes", "behind", "[I", true)
  | 4 => ("AsInBertha$Changes", "done", "I", false)
  | 5 => ("AsInBertha$Changes", "undone", "I", false)
  | _ => ("AsInBertha$Changes", "first", "I", false)
def tyX0 : Nat → FieldType := fun k => match k with
  | 0 => .array .int
  | 1 => .array .int
  | 2 => .array .int
  | 3 => .array .int
  | 4 => .int
  | 5 => .int
  | _ => .int
abbrev wsX00 : List Cond := u_ws RX0 TX0 7
theorem nmX0 : ∀ a, a < 7 → ∀ b, b < 7 → a ≠ b → (TX0 a).2.1 ≠ (TX0 b).2.1 := by decide +kernel
theorem tyX0_ok : ∀ k, k < 7 → parseFieldDescriptor (TX0 k).2.2.1 = some (tyX0 k) := by decide +kernel
abbrev cX0_init : ByteArray := prog_2_method_1_code
def yX0_init : MethodName := ⟨RX0, "<init>", "()V"⟩
abbrev cX0_enter : ByteArray := prog_2_method_2_code
def yX0_enter : MethodName := ⟨RX0, "enter", "(IIII)V"⟩
abbrev cX0_stepBack : ByteArray := prog_2_method_3_code
def yX0_stepBack : MethodName := ⟨RX0, "stepBack", "()I"⟩
abbrev cX0_stepOn : ByteArray := prog_2_method_4_code
def yX0_stepOn : MethodName := ⟨RX0, "stepOn", "()I"⟩
def RX1 : String := "AsInBertha$Deed"
def TX1 : u_T := fun k => match k with
  | 0 => ("AsInBertha$Deed", "said", "[I", true)
  | 1 => ("AsInBertha$Deed", "noted", "[I", true)
  | 2 => ("AsInBertha$Deed", "name", "I", false)
  | 3 => ("AsInBertha$Deed", "calls", "I", false)
  | 4 => ("AsInBertha$Deed", "rightCalls", "I", false)
  | 5 => ("AsInBertha$Deed", "spent", "I", false)
  | 6 => ("AsInBertha$Deed", "spoken", "I", false)
  | _ => ("AsInBertha$Deed", "z", "I", false)
def tyX1 : Nat → FieldType := fun k => match k with
  | 0 => .array .int
  | 1 => .array .int
  | 2 => .int
  | 3 => .int
  | 4 => .int
  | 5 => .int
  | 6 => .int
  | _ => .int
abbrev wsX10 : List Cond := u_ws RX1 TX1 8
theorem nmX1 : ∀ a, a < 8 → ∀ b, b < 8 → a ≠ b → (TX1 a).2.1 ≠ (TX1 b).2.1 := by decide +kernel
theorem tyX1_ok : ∀ k, k < 8 → parseFieldDescriptor (TX1 k).2.2.1 = some (tyX1 k) := by decide +kernel
abbrev cX1_init : ByteArray := prog_3_method_1_code
def yX1_init : MethodName := ⟨RX1, "<init>", "()V"⟩
abbrev cX1_begin : ByteArray := prog_3_method_2_code
def yX1_begin : MethodName := ⟨RX1, "begin", "(II)V"⟩
abbrev cX1_speak : ByteArray := prog_3_method_3_code
def yX1_speak : MethodName := ⟨RX1, "speak", "(LAsInBertha$Line;IIZ)I"⟩
abbrev cX1_write : ByteArray := prog_3_method_4_code
def yX1_write : MethodName := ⟨RX1, "write", "(III)V"⟩
abbrev cX1_missing : ByteArray := prog_3_method_5_code
def yX1_missing : MethodName := ⟨RX1, "missing", "(LAsInBertha$Names;)I"⟩
abbrev cX1_wrong : ByteArray := prog_3_method_6_code
def yX1_wrong : MethodName := ⟨RX1, "wrong", "(LAsInBertha$Names;)I"⟩
abbrev cX1_end : ByteArray := prog_3_method_7_code
def yX1_end : MethodName := ⟨RX1, "end", "(Z)V"⟩
abbrev cX1_become : ByteArray := prog_3_method_8_code
def yX1_become : MethodName := ⟨RX1, "become", "(LAsInBertha$Deed;)V"⟩
def RX2 : String := "AsInBertha$Figures"
def TX2 : u_T := fun k => match k with
  | 0 => ("AsInBertha$Figures", "line", "LAsInBertha$Line;", true)
  | 1 => ("AsInBertha$Figures", "ways", "[J", false)
  | 2 => ("AsInBertha$Figures", "longer", "[J", false)
  | _ => ("AsInBertha$Figures", "all", "J", false)
def tyX2 : Nat → FieldType := fun k => match k with
  | 0 => .object "AsInBertha$Line"
  | 1 => .array .long
  | 2 => .array .long
  | _ => .long
abbrev wsX20 : List Cond := u_ws RX2 TX2 4
theorem nmX2 : ∀ a, a < 4 → ∀ b, b < 4 → a ≠ b → (TX2 a).2.1 ≠ (TX2 b).2.1 := by decide +kernel
theorem tyX2_ok : ∀ k, k < 4 → parseFieldDescriptor (TX2 k).2.2.1 = some (tyX2 k) := by decide +kernel
abbrev cX2_init : ByteArray := prog_4_method_1_code
def yX2_init : MethodName := ⟨RX2, "<init>", "(LAsInBertha$Line;)V"⟩
abbrev cX2_weigh : ByteArray := prog_4_method_2_code
def yX2_weigh : MethodName := ⟨RX2, "weigh", "(LAsInBertha$Shelf;)V"⟩
abbrev cX2_lengthen : ByteArray := prog_4_method_3_code
def yX2_lengthen : MethodName := ⟨RX2, "lengthen", "(I)V"⟩
def RX3 : String := "AsInBertha$Guess"
def TX3 : u_T := fun k => match k with
  | 0 => ("AsInBertha$Guess", "names", "LAsInBertha$Names;", true)
  | 1 => ("AsInBertha$Guess", "line", "LAsInBertha$Line;", true)
  | 2 => ("AsInBertha$Guess", "products", "[J", true)
  | _ => ("AsInBertha$Guess", "all", "J", false)
def tyX3 : Nat → FieldType := fun k => match k with
  | 0 => .object "AsInBertha$Names"
  | 1 => .object "AsInBertha$Line"
  | 2 => .array .long
  | _ => .long
abbrev wsX30 : List Cond := u_ws RX3 TX3 4
theorem nmX3 : ∀ a, a < 4 → ∀ b, b < 4 → a ≠ b → (TX3 a).2.1 ≠ (TX3 b).2.1 := by decide +kernel
theorem tyX3_ok : ∀ k, k < 4 → parseFieldDescriptor (TX3 k).2.2.1 = some (tyX3 k) := by decide +kernel
abbrev cX3_init : ByteArray := prog_5_method_1_code
def yX3_init : MethodName := ⟨RX3, "<init>", "(LAsInBertha$Names;LAsInBertha$Line;)V"⟩
abbrev cX3_weigh : ByteArray := prog_5_method_2_code
def yX3_weigh : MethodName := ⟨RX3, "weigh", "(LAsInBertha$Shelf;I)V"⟩
abbrev cX3_best : ByteArray := prog_5_method_3_code
def yX3_best : MethodName := ⟨RX3, "best", "()I"⟩
abbrev cX3_placeToAsk : ByteArray := prog_5_method_4_code
def yX3_placeToAsk : MethodName := ⟨RX3, "placeToAsk", "(I)I"⟩
abbrev cX3_onceMore : ByteArray := prog_5_method_5_code
def yX3_onceMore : MethodName := ⟨RX3, "onceMore", "(I)J"⟩
abbrev cX3_fitting : ByteArray := prog_5_method_6_code
def yX3_fitting : MethodName := ⟨RX3, "fitting", "(LAsInBertha$Shelf;)I"⟩
abbrev cX3_misfit : ByteArray := prog_5_method_7_code
def yX3_misfit : MethodName := ⟨RX3, "misfit", "(LAsInBertha$Shelf;I)I"⟩
def RX4 : String := "AsInBertha$Law"
def TX4 : u_T := fun k => match k with
  | 0 => ("AsInBertha$Law", "code", "[I", true)
  | 1 => ("AsInBertha$Law", "stack", "[I", true)
  | 2 => ("AsInBertha$Law", "values", "[I", true)
  | _ => ("AsInBertha$Law", "length", "I", false)
def tyX4 : Nat → FieldType := fun k => match k with
  | 0 => .array .int
  | 1 => .array .int
  | 2 => .array .int
  | _ => .int
abbrev wsX40 : List Cond := u_ws RX4 TX4 4
theorem nmX4 : ∀ a, a < 4 → ∀ b, b < 4 → a ≠ b → (TX4 a).2.1 ≠ (TX4 b).2.1 := by decide +kernel
theorem tyX4_ok : ∀ k, k < 4 → parseFieldDescriptor (TX4 k).2.2.1 = some (tyX4 k) := by decide +kernel
abbrev cX4_init : ByteArray := prog_6_method_1_code
def yX4_init : MethodName := ⟨RX4, "<init>", "()V"⟩
abbrev cX4_clear : ByteArray := prog_6_method_2_code
def yX4_clear : MethodName := ⟨RX4, "clear", "()V"⟩
abbrev cX4_emit : ByteArray := prog_6_method_3_code
def yX4_emit : MethodName := ⟨RX4, "emit", "(I)V"⟩
abbrev cX4_worth : ByteArray := prog_6_method_4_code
def yX4_worth : MethodName := ⟨RX4, "worth", "(IIIIII)I"⟩
abbrev cX4_made : ByteArray := prog_6_method_5_code
def yX4_made : MethodName := ⟨RX4, "made", "(III)I"⟩
def RX5 : String := "AsInBertha$Line"
def TX5 : u_T := fun k => match k with
  | 0 => ("AsInBertha$Line", "alike", "[I", true)
  | 1 => ("AsInBertha$Line", "longs", "[I", true)
  | 2 => ("AsInBertha$Line", "clear", "[I", true)
  | 3 => ("AsInBertha$Line", "noise", "I", false)
  | 4 => ("AsInBertha$Line", "law", "LAsInBertha$Law;", false)
  | 5 => ("AsInBertha$Line", "draft", "LAsInBertha$Law;", false)
  | 6 => ("AsInBertha$Line", "weights", "[I", true)
  | _ => ("AsInBertha$Line", "totals", "[I", true)
def tyX5 : Nat → FieldType := fun k => match k with
  | 0 => .array .int
  | 1 => .array .int
  | 2 => .array .int
  | 3 => .int
  | 4 => .object "AsInBertha$Law"
  | 5 => .object "AsInBertha$Law"
  | 6 => .array .int
  | _ => .array .int
abbrev wsX50 : List Cond := u_ws RX5 TX5 8
theorem nmX5 : ∀ a, a < 8 → ∀ b, b < 8 → a ≠ b → (TX5 a).2.1 ≠ (TX5 b).2.1 := by decide +kernel
theorem tyX5_ok : ∀ k, k < 8 → parseFieldDescriptor (TX5 k).2.2.1 = some (tyX5 k) := by decide +kernel
abbrev cX5_init : ByteArray := prog_7_method_1_code
def yX5_init : MethodName := ⟨RX5, "<init>", "()V"⟩
abbrev cX5_likenTo : ByteArray := prog_7_method_2_code
def yX5_likenTo : MethodName := ⟨RX5, "likenTo", "(III)V"⟩
abbrev cX5_makeNoise : ByteArray := prog_7_method_3_code
def yX5_makeNoise : MethodName := ⟨RX5, "makeNoise", "(I)V"⟩
abbrev cX5_enact : ByteArray := prog_7_method_4_code
def yX5_enact : MethodName := ⟨RX5, "enact", "()V"⟩
abbrev cX5_weight : ByteArray := prog_7_method_5_code
def yX5_weight : MethodName := ⟨RX5, "weight", "(III)I"⟩
abbrev cX5_total : ByteArray := prog_7_method_6_code
def yX5_total : MethodName := ⟨RX5, "total", "(II)I"⟩
abbrev cX5_workOut : ByteArray := prog_7_method_7_code
def yX5_workOut : MethodName := ⟨RX5, "workOut", "(II)V"⟩
abbrev cX5_parts : ByteArray := prog_7_method_8_code
def yX5_parts : MethodName := ⟨RX5, "parts", "(III)I"⟩
abbrev cX5_heardBy : ByteArray := prog_7_method_9_code
def yX5_heardBy : MethodName := ⟨RX5, "heardBy", "(III)I"⟩
def RX6 : String := "AsInBertha$Names"
def TX6 : u_T := fun k => match k with
  | 0 => ("AsInBertha$Names", "letters", "[I", true)
  | 1 => ("AsInBertha$Names", "sizes", "[I", true)
  | 2 => ("AsInBertha$Names", "known", "[I", true)
  | _ => ("AsInBertha$Names", "number", "I", false)
def tyX6 : Nat → FieldType := fun k => match k with
  | 0 => .array .int
  | 1 => .array .int
  | 2 => .array .int
  | _ => .int
abbrev wsX60 : List Cond := u_ws RX6 TX6 4
theorem nmX6 : ∀ a, a < 4 → ∀ b, b < 4 → a ≠ b → (TX6 a).2.1 ≠ (TX6 b).2.1 := by decide +kernel
theorem tyX6_ok : ∀ k, k < 4 → parseFieldDescriptor (TX6 k).2.2.1 = some (tyX6 k) := by decide +kernel
abbrev cX6_init : ByteArray := prog_8_method_1_code
def yX6_init : MethodName := ⟨RX6, "<init>", "()V"⟩
abbrev cX6_has : ByteArray := prog_8_method_2_code
def yX6_has : MethodName := ⟨RX6, "has", "(I)Z"⟩
abbrev cX6_hasSet : ByteArray := prog_8_method_3_code
def yX6_hasSet : MethodName := ⟨RX6, "hasSet", "(II)Z"⟩
abbrev cX6_areEven : ByteArray := prog_8_method_4_code
def yX6_areEven : MethodName := ⟨RX6, "areEven", "(II)Z"⟩
abbrev cX6_at : ByteArray := prog_8_method_5_code
def yX6_at : MethodName := ⟨RX6, "at", "(II)I"⟩
abbrev cX6_enter : ByteArray := prog_8_method_6_code
def yX6_enter : MethodName := ⟨RX6, "enter", "(LAsInBertha$Shelf;II)I"⟩
abbrev cX6_sumOf : ByteArray := prog_8_method_7_code
def yX6_sumOf : MethodName := ⟨RX6, "sumOf", "(I)I"⟩
abbrev cX6_unlike : ByteArray := prog_8_method_8_code
def yX6_unlike : MethodName := ⟨RX6, "unlike", "(ILAsInBertha$Shelf;)I"⟩
def RX7 : String := "AsInBertha$Reader"
def TX7 : u_T := fun k => match k with
  | 0 => ("AsInBertha$Reader", "tape", "[I", true)
  | 1 => ("AsInBertha$Reader", "length", "I", false)
  | 2 => ("AsInBertha$Reader", "at", "I", false)
  | _ => ("AsInBertha$Reader", "law", "LAsInBertha$Law;", false)
def tyX7 : Nat → FieldType := fun k => match k with
  | 0 => .array .int
  | 1 => .int
  | 2 => .int
  | _ => .object "AsInBertha$Law"
abbrev wsX70 : List Cond := u_ws RX7 TX7 4
theorem nmX7 : ∀ a, a < 4 → ∀ b, b < 4 → a ≠ b → (TX7 a).2.1 ≠ (TX7 b).2.1 := by decide +kernel
theorem tyX7_ok : ∀ k, k < 4 → parseFieldDescriptor (TX7 k).2.2.1 = some (tyX7 k) := by decide +kernel
abbrev cX7_init : ByteArray := prog_9_method_1_code
def yX7_init : MethodName := ⟨RX7, "<init>", "()V"⟩
abbrev cX7_take : ByteArray := prog_9_method_2_code
def yX7_take : MethodName := ⟨RX7, "take", "(I)Z"⟩
abbrev cX7_read : ByteArray := prog_9_method_3_code
def yX7_read : MethodName := ⟨RX7, "read", "(LAsInBertha$Law;)I"⟩
abbrev cX7_isAt : ByteArray := prog_9_method_4_code
def yX7_isAt : MethodName := ⟨RX7, "isAt", "(C)Z"⟩
abbrev cX7_readLine : ByteArray := prog_9_method_5_code
def yX7_readLine : MethodName := ⟨RX7, "readLine", "()Z"⟩
abbrev cX7_readRank : ByteArray := prog_9_method_6_code
def yX7_readRank : MethodName := ⟨RX7, "readRank", "(II)Z"⟩
abbrev cX7_rankOf : ByteArray := prog_9_method_7_code
def yX7_rankOf : MethodName := ⟨RX7, "rankOf", "(I)I"⟩
abbrev cX7_readOperand : ByteArray := prog_9_method_8_code
def yX7_readOperand : MethodName := ⟨RX7, "readOperand", "(I)Z"⟩
abbrev cX7_readToClose : ByteArray := prog_9_method_9_code
def yX7_readToClose : MethodName := ⟨RX7, "readToClose", "(I)Z"⟩
abbrev cX7_readNumber : ByteArray := prog_9_method_10_code
def yX7_readNumber : MethodName := ⟨RX7, "readNumber", "()V"⟩
abbrev cX7_isDigit : ByteArray := prog_9_method_11_code
def yX7_isDigit : MethodName := ⟨RX7, "isDigit", "(I)Z"⟩
def RX8 : String := "AsInBertha$Shelf"
def TX8 : u_T := fun k => match k with
  | 0 => ("AsInBertha$Shelf", "elements", "[J", true)
  | 1 => ("AsInBertha$Shelf", "body", "I", false)
  | 2 => ("AsInBertha$Shelf", "sort", "I", false)
  | _ => ("AsInBertha$Shelf", "length", "I", false)
def tyX8 : Nat → FieldType := fun k => match k with
  | 0 => .array .long
  | 1 => .int
  | 2 => .int
  | _ => .int
abbrev wsX80 : List Cond := u_ws RX8 TX8 4
theorem nmX8 : ∀ a, a < 4 → ∀ b, b < 4 → a ≠ b → (TX8 a).2.1 ≠ (TX8 b).2.1 := by decide +kernel
theorem tyX8_ok : ∀ k, k < 4 → parseFieldDescriptor (TX8 k).2.2.1 = some (tyX8 k) := by decide +kernel
abbrev cX8_init : ByteArray := prog_10_method_1_code
def yX8_init : MethodName := ⟨RX8, "<init>", "()V"⟩
abbrev cX8_isEmpty : ByteArray := prog_10_method_2_code
def yX8_isEmpty : MethodName := ⟨RX8, "isEmpty", "()Z"⟩
abbrev cX8_isRow : ByteArray := prog_10_method_3_code
def yX8_isRow : MethodName := ⟨RX8, "isRow", "()Z"⟩
abbrev cX8_hold : ByteArray := prog_10_method_4_code
def yX8_hold : MethodName := ⟨RX8, "hold", "(I)V"⟩
abbrev cX8_holdRow : ByteArray := prog_10_method_5_code
def yX8_holdRow : MethodName := ⟨RX8, "holdRow", "(II)V"⟩
abbrev cX8_hasRun : ByteArray := prog_10_method_6_code
def yX8_hasRun : MethodName := ⟨RX8, "hasRun", "(II)Z"⟩
abbrev cX8_enter : ByteArray := prog_10_method_7_code
def yX8_enter : MethodName := ⟨RX8, "enter", "(IJ)V"⟩
abbrev cX8_cut : ByteArray := prog_10_method_8_code
def yX8_cut : MethodName := ⟨RX8, "cut", "(J)J"⟩
abbrev cX8_letterAt : ByteArray := prog_10_method_9_code
def yX8_letterAt : MethodName := ⟨RX8, "letterAt", "(I)I"⟩
abbrev cX8_spells : ByteArray := prog_10_method_10_code
def yX8_spells : MethodName := ⟨RX8, "spells", "(II)Z"⟩
def RX9 : String := "AsInBertha$Speech"
def TX9 : u_T := fun k => match k with
  | 0 => ("AsInBertha$Speech", "names", "LAsInBertha$Names;", true)
  | 1 => ("AsInBertha$Speech", "line", "LAsInBertha$Line;", true)
  | 2 => ("AsInBertha$Speech", "plain", "[I", true)
  | _ => ("AsInBertha$Speech", "byWord", "[I", true)
def tyX9 : Nat → FieldType := fun k => match k with
  | 0 => .object "AsInBertha$Names"
  | 1 => .object "AsInBertha$Line"
  | 2 => .array .int
  | _ => .array .int
abbrev wsX90 : List Cond := u_ws RX9 TX9 4
theorem nmX9 : ∀ a, a < 4 → ∀ b, b < 4 → a ≠ b → (TX9 a).2.1 ≠ (TX9 b).2.1 := by decide +kernel
theorem tyX9_ok : ∀ k, k < 4 → parseFieldDescriptor (TX9 k).2.2.1 = some (tyX9 k) := by decide +kernel
abbrev cX9_init : ByteArray := prog_11_method_1_code
def yX9_init : MethodName := ⟨RX9, "<init>", "(LAsInBertha$Names;LAsInBertha$Line;)V"⟩
abbrev cX9_prepare : ByteArray := prog_11_method_2_code
def yX9_prepare : MethodName := ⟨RX9, "prepare", "(I)V"⟩
abbrev cX9_rightBy : ByteArray := prog_11_method_3_code
def yX9_rightBy : MethodName := ⟨RX9, "rightBy", "(II)J"⟩
abbrev cX9_lasts : ByteArray := prog_11_method_4_code
def yX9_lasts : MethodName := ⟨RX9, "lasts", "(II)I"⟩
abbrev cX9_leastSet : ByteArray := prog_11_method_5_code
def yX9_leastSet : MethodName := ⟨RX9, "leastSet", "(II)I"⟩
abbrev cX9_weakest : ByteArray := prog_11_method_6_code
def yX9_weakest : MethodName := ⟨RX9, "weakest", "(I)I"⟩
abbrev cX9_heardAs : ByteArray := prog_11_method_7_code
def yX9_heardAs : MethodName := ⟨RX9, "heardAs", "(II)J"⟩
abbrev cX9_closestTo : ByteArray := prog_11_method_8_code
def yX9_closestTo : MethodName := ⟨RX9, "closestTo", "(I)I"⟩
abbrev cX9_closestPair : ByteArray := prog_11_method_9_code
def yX9_closestPair : MethodName := ⟨RX9, "closestPair", "()I"⟩
abbrev cX9_stopsAt : ByteArray := prog_11_method_10_code
def yX9_stopsAt : MethodName := ⟨RX9, "stopsAt", "(II)I"⟩
abbrev cX9_draws : ByteArray := prog_11_method_11_code
def yX9_draws : MethodName := ⟨RX9, "draws", "(IIIZ)I"⟩
def RX10 : String := "AsInBertha$Spellings"
def TX10 : u_T := fun k => match k with
  | 0 => ("AsInBertha$Spellings", "kinds", "[I", true)
  | 1 => ("AsInBertha$Spellings", "traced", "[I", true)
  | 2 => ("AsInBertha$Spellings", "number", "I", false)
  | _ => ("AsInBertha$Spellings", "ran", "I", false)
def tyX10 : Nat → FieldType := fun k => match k with
  | 0 => .array .int
  | 1 => .array .int
  | 2 => .int
  | _ => .int
abbrev wsX100 : List Cond := u_ws RX10 TX10 4
theorem nmX10 : ∀ a, a < 4 → ∀ b, b < 4 → a ≠ b → (TX10 a).2.1 ≠ (TX10 b).2.1 := by decide +kernel
theorem tyX10_ok : ∀ k, k < 4 → parseFieldDescriptor (TX10 k).2.2.1 = some (tyX10 k) := by decide +kernel
abbrev cX10_init : ByteArray := prog_12_method_1_code
def yX10_init : MethodName := ⟨RX10, "<init>", "()V"⟩
abbrev cX10_has : ByteArray := prog_12_method_2_code
def yX10_has : MethodName := ⟨RX10, "has", "(I)Z"⟩
abbrev cX10_make : ByteArray := prog_12_method_3_code
def yX10_make : MethodName := ⟨RX10, "make", "(I)I"⟩
abbrev cX10_isUnder : ByteArray := prog_12_method_4_code
def yX10_isUnder : MethodName := ⟨RX10, "isUnder", "(II)Z"⟩
abbrev cX10_perform : ByteArray := prog_12_method_5_code
def yX10_perform : MethodName := ⟨RX10, "perform", "(IIIII)I"⟩
abbrev cX10_runBody : ByteArray := prog_12_method_6_code
def yX10_runBody : MethodName := ⟨RX10, "runBody", "(IIIII)I"⟩
def RX11 : String := "AsInBertha"
def TX11 : u_T := fun k => match k with
  | 0 => ("AsInBertha", "line", "LAsInBertha$Line;", true)
  | 1 => ("AsInBertha", "names", "LAsInBertha$Names;", true)
  | 2 => ("AsInBertha", "speech", "LAsInBertha$Speech;", true)
  | 3 => ("AsInBertha", "guess", "LAsInBertha$Guess;", true)
  | 4 => ("AsInBertha", "figures", "LAsInBertha$Figures;", true)
  | 5 => ("AsInBertha", "reader", "LAsInBertha$Reader;", true)
  | 6 => ("AsInBertha", "changes", "LAsInBertha$Changes;", true)
  | 7 => ("AsInBertha", "deed", "LAsInBertha$Deed;", true)
  | 8 => ("AsInBertha", "kept", "LAsInBertha$Deed;", true)
  | 9 => ("AsInBertha", "spellings", "LAsInBertha$Spellings;", true)
  | 10 => ("AsInBertha", "shelves", "[LAsInBertha$Shelf;", true)
  | _ => ("AsInBertha", "imaged", "Z", false)
def tyX11 : Nat → FieldType := fun k => match k with
  | 0 => .object "AsInBertha$Line"
  | 1 => .object "AsInBertha$Names"
  | 2 => .object "AsInBertha$Speech"
  | 3 => .object "AsInBertha$Guess"
  | 4 => .object "AsInBertha$Figures"
  | 5 => .object "AsInBertha$Reader"
  | 6 => .object "AsInBertha$Changes"
  | 7 => .object "AsInBertha$Deed"
  | 8 => .object "AsInBertha$Deed"
  | 9 => .object "AsInBertha$Spellings"
  | 10 => .array (.object "AsInBertha$Shelf")
  | _ => .boolean
abbrev wsX110 : List Cond := u_ws RX11 TX11 12
theorem nmX11 : ∀ a, a < 12 → ∀ b, b < 12 → a ≠ b → (TX11 a).2.1 ≠ (TX11 b).2.1 := by decide +kernel
theorem tyX11_ok : ∀ k, k < 12 → parseFieldDescriptor (TX11 k).2.2.1 = some (tyX11 k) := by decide +kernel
abbrev cX11_init : ByteArray := prog_1_method_1_code
def yX11_init : MethodName := ⟨RX11, "<init>", "()V"⟩
abbrev cX11_name : ByteArray := prog_1_method_2_code
def yX11_name : MethodName := ⟨RX11, "name", "(II)I"⟩
abbrev cX11_mend : ByteArray := prog_1_method_3_code
def yX11_mend : MethodName := ⟨RX11, "mend", "(III)I"⟩
abbrev cX11_of : ByteArray := prog_1_method_4_code
def yX11_of : MethodName := ⟨RX11, "of", "(II)I"⟩
abbrev cX11_letter : ByteArray := prog_1_method_5_code
def yX11_letter : MethodName := ⟨RX11, "letter", "(II)I"⟩
abbrev cX11_feed : ByteArray := prog_1_method_6_code
def yX11_feed : MethodName := ⟨RX11, "feed", "(I)I"⟩
abbrev cX11_law : ByteArray := prog_1_method_7_code
def yX11_law : MethodName := ⟨RX11, "law", "()I"⟩
abbrev cX11_heard : ByteArray := prog_1_method_8_code
def yX11_heard : MethodName := ⟨RX11, "heard", "(III)J"⟩
abbrev cX11_likely : ByteArray := prog_1_method_9_code
def yX11_likely : MethodName := ⟨RX11, "likely", "(III)J"⟩
abbrev cX11_likeliest : ByteArray := prog_1_method_10_code
def yX11_likeliest : MethodName := ⟨RX11, "likeliest", "(I)I"⟩
abbrev cX11_sure : ByteArray := prog_1_method_11_code
def yX11_sure : MethodName := ⟨RX11, "sure", "(II)I"⟩
abbrev cX11_check : ByteArray := prog_1_method_12_code
def yX11_check : MethodName := ⟨RX11, "check", "(III)J"⟩
abbrev cX11_again : ByteArray := prog_1_method_13_code
def yX11_again : MethodName := ⟨RX11, "again", "(II)J"⟩
abbrev cX11_right : ByteArray := prog_1_method_14_code
def yX11_right : MethodName := ⟨RX11, "right", "(III)J"⟩
abbrev cX11_time : ByteArray := prog_1_method_15_code
def yX11_time : MethodName := ⟨RX11, "time", "(II)I"⟩
abbrev cX11_leastSaid : ByteArray := prog_1_method_16_code
def yX11_leastSaid : MethodName := ⟨RX11, "leastSaid", "(II)I"⟩
abbrev cX11_worst : ByteArray := prog_1_method_17_code
def yX11_worst : MethodName := ⟨RX11, "worst", "(I)I"⟩
abbrev cX11_confused : ByteArray := prog_1_method_18_code
def yX11_confused : MethodName := ⟨RX11, "confused", "(II)J"⟩
abbrev cX11_nearest : ByteArray := prog_1_method_19_code
def yX11_nearest : MethodName := ⟨RX11, "nearest", "(I)I"⟩
abbrev cX11_pairs : ByteArray := prog_1_method_20_code
def yX11_pairs : MethodName := ⟨RX11, "pairs", "()I"⟩
abbrev cX11_sums : ByteArray := prog_1_method_21_code
def yX11_sums : MethodName := ⟨RX11, "sums", "(III)J"⟩
abbrev cX11_stop : ByteArray := prog_1_method_22_code
def yX11_stop : MethodName := ⟨RX11, "stop", "(II)I"⟩
abbrev cX11_who : ByteArray := prog_1_method_23_code
def yX11_who : MethodName := ⟨RX11, "who", "(I)I"⟩
abbrev cX11_odd : ByteArray := prog_1_method_24_code
def yX11_odd : MethodName := ⟨RX11, "odd", "(I)I"⟩
abbrev cX11_fits : ByteArray := prog_1_method_25_code
def yX11_fits : MethodName := ⟨RX11, "fits", "(II)I"⟩
abbrev cX11_drawn : ByteArray := prog_1_method_26_code
def yX11_drawn : MethodName := ⟨RX11, "drawn", "(III)I"⟩
abbrev cX11_call : ByteArray := prog_1_method_27_code
def yX11_call : MethodName := ⟨RX11, "call", "(II)I"⟩
abbrev cX11_say : ByteArray := prog_1_method_28_code
def yX11_say : MethodName := ⟨RX11, "say", "(II)I"⟩
abbrev cX11_noted : ByteArray := prog_1_method_29_code
def yX11_noted : MethodName := ⟨RX11, "noted", "(I)I"⟩
abbrev cX11_hang : ByteArray := prog_1_method_30_code
def yX11_hang : MethodName := ⟨RX11, "hang", "()I"⟩
abbrev cX11_led : ByteArray := prog_1_method_31_code
def yX11_led : MethodName := ⟨RX11, "led", "(I)I"⟩
abbrev cX11_image : ByteArray := prog_1_method_32_code
def yX11_image : MethodName := ⟨RX11, "image", "()I"⟩
abbrev cX11_back : ByteArray := prog_1_method_33_code
def yX11_back : MethodName := ⟨RX11, "back", "()I"⟩
abbrev cX11_undo : ByteArray := prog_1_method_34_code
def yX11_undo : MethodName := ⟨RX11, "undo", "()I"⟩
abbrev cX11_redo : ByteArray := prog_1_method_35_code
def yX11_redo : MethodName := ⟨RX11, "redo", "()I"⟩
abbrev cX11_body : ByteArray := prog_1_method_36_code
def yX11_body : MethodName := ⟨RX11, "body", "(I)I"⟩
abbrev cX11_act : ByteArray := prog_1_method_37_code
def yX11_act : MethodName := ⟨RX11, "act", "(III)I"⟩
abbrev cX11_trace : ByteArray := prog_1_method_38_code
def yX11_trace : MethodName := ⟨RX11, "trace", "(I)I"⟩
abbrev cX11_keep : ByteArray := prog_1_method_39_code
def yX11_keep : MethodName := ⟨RX11, "keep", "(II)I"⟩
abbrev cX11_row : ByteArray := prog_1_method_40_code
def yX11_row : MethodName := ⟨RX11, "row", "(III)I"⟩
abbrev cX11_put : ByteArray := prog_1_method_41_code
def yX11_put : MethodName := ⟨RX11, "put", "(IIJ)I"⟩
abbrev cX11_element : ByteArray := prog_1_method_42_code
def yX11_element : MethodName := ⟨RX11, "element", "(II)J"⟩
abbrev cX11_shift : ByteArray := prog_1_method_43_code
def yX11_shift : MethodName := ⟨RX11, "shift", "(IIIII)I"⟩
abbrev cX11_taken : ByteArray := prog_1_method_44_code
def yX11_taken : MethodName := ⟨RX11, "taken", "(II)I"⟩
abbrev cX11_count : ByteArray := prog_1_method_45_code
def yX11_count : MethodName := ⟨RX11, "count", "(I)I"⟩
abbrev cX11_shelfThere : ByteArray := prog_1_method_46_code
def yX11_shelfThere : MethodName := ⟨RX11, "shelfThere", "(I)Z"⟩
abbrev cX11_fractionPart : ByteArray := prog_1_method_47_code
def yX11_fractionPart : MethodName := ⟨RX11, "fractionPart", "(I)Z"⟩
abbrev cX11_ofTwelve : ByteArray := prog_1_method_48_code
def yX11_ofTwelve : MethodName := ⟨RX11, "ofTwelve", "(I)Z"⟩
abbrev cX11_isLetter : ByteArray := prog_1_method_49_code
def yX11_isLetter : MethodName := ⟨RX11, "isLetter", "(J)Z"⟩
abbrev cX11_twoLetters : ByteArray := prog_1_method_50_code
def yX11_twoLetters : MethodName := ⟨RX11, "twoLetters", "(I)Z"⟩
abbrev cX11_refusedBytes : ByteArray := prog_1_method_51_code
def yX11_refusedBytes : MethodName := ⟨RX11, "refusedBytes", "(I)I"⟩
abbrev cX11_refusedElement : ByteArray := prog_1_method_52_code
def yX11_refusedElement : MethodName := ⟨RX11, "refusedElement", "(II)I"⟩
abbrev cX11_refusedPlace : ByteArray := prog_1_method_53_code
def yX11_refusedPlace : MethodName := ⟨RX11, "refusedPlace", "(I)I"⟩
abbrev cX11_mendable : ByteArray := prog_1_method_54_code
def yX11_mendable : MethodName := ⟨RX11, "mendable", "(II)Z"⟩
abbrev cX11_within : ByteArray := prog_1_method_55_code
def yX11_within : MethodName := ⟨RX11, "within", "(II)Z"⟩
abbrev cX11_told : ByteArray := prog_1_method_56_code
def yX11_told : MethodName := ⟨RX11, "told", "(II)I"⟩
abbrev cX11_tellAnew : ByteArray := prog_1_method_57_code
def yX11_tellAnew : MethodName := ⟨RX11, "tellAnew", "(III)V"⟩
abbrev cX11_lowest : ByteArray := prog_1_method_58_code
def yX11_lowest : MethodName := ⟨RX11, "lowest", "(JJI)J"⟩
abbrev cX11_nextDraw : ByteArray := prog_1_method_59_code
def yX11_nextDraw : MethodName := ⟨RX11, "nextDraw", "(I)I"⟩
def RX12 : String := "AsInBerthaModel"
def TX12 : u_T := fun k => match k with
  | 0 => ("AsInBerthaModel", "may", "[I", true)
  | 1 => ("AsInBerthaModel", "changeAt", "[I", true)
  | 2 => ("AsInBerthaModel", "changeWas", "[I", true)
  | 3 => ("AsInBerthaModel", "changeIs", "[I", true)
  | 4 => ("AsInBerthaModel", "keptMany", "I", false)
  | 5 => ("AsInBerthaModel", "done", "I", false)
  | 6 => ("AsInBerthaModel", "namesMany", "I", false)
  | 7 => ("AsInBerthaModel", "longs", "[I", true)
  | 8 => ("AsInBerthaModel", "letters", "[I", true)
  | 9 => ("AsInBerthaModel", "tape", "[I", true)
  | 10 => ("AsInBerthaModel", "tapeMany", "I", false)
  | 11 => ("AsInBerthaModel", "text", "[I", true)
  | 12 => ("AsInBerthaModel", "textMany", "I", false)
  | 13 => ("AsInBerthaModel", "base", "I", false)
  | 14 => ("AsInBerthaModel", "at", "I", false)
  | 15 => ("AsInBerthaModel", "ends", "I", false)
  | 16 => ("AsInBerthaModel", "fault", "I", false)
  | 17 => ("AsInBerthaModel", "opened", "I", false)
  | 18 => ("AsInBerthaModel", "names", "[I", true)
  | 19 => ("AsInBerthaModel", "weights", "[I", true)
  | 20 => ("AsInBerthaModel", "products", "[J", true)
  | 21 => ("AsInBerthaModel", "sumWays", "[J", true)
  | 22 => ("AsInBerthaModel", "z", "I", false)
  | 23 => ("AsInBerthaModel", "onName", "I", false)
  | 24 => ("AsInBerthaModel", "onDraws", "I", false)
  | 25 => ("AsInBerthaModel", "onSaid", "I", false)
  | 26 => ("AsInBerthaModel", "saidMany", "[I", true)
  | 27 => ("AsInBerthaModel", "notedAs", "[I", true)
  | 28 => ("AsInBerthaModel", "ledCalls", "I", false)
  | 29 => ("AsInBerthaModel", "ledRight", "I", false)
  | 30 => ("AsInBerthaModel", "ledTime", "I", false)
  | 31 => ("AsInBerthaModel", "isKept", "Z", false)
  | 32 => ("AsInBerthaModel", "image", "[I", true)
  | 33 => ("AsInBerthaModel", "bodies", "I", false)
  | 34 => ("AsInBerthaModel", "bodyKind", "[I", true)
  | 35 => ("AsInBerthaModel", "trace", "[I", true)
  | 36 => ("AsInBerthaModel", "ran", "I", false)
  | 37 => ("AsInBerthaModel", "ownKind", "I", false)
  | 38 => ("AsInBerthaModel", "ownNumber", "I", false)
  | 39 => ("AsInBerthaModel", "shelf", "[I", true)
  | 40 => ("AsInBerthaModel", "many", "[I", true)
  | 41 => ("AsInBerthaModel", "items", "[J", true)
  | _ => ("AsInBerthaModel", "carried", "[J", true)
def tyX12 : Nat → FieldType := fun k => match k with
  | 0 => .array .int
  | 1 => .array .int
  | 2 => .array .int
  | 3 => .array .int
  | 4 => .int
  | 5 => .int
  | 6 => .int
  | 7 => .array .int
  | 8 => .array .int
  | 9 => .array .int
  | 10 => .int
  | 11 => .array .int
  | 12 => .int
  | 13 => .int
  | 14 => .int
  | 15 => .int
  | 16 => .int
  | 17 => .int
  | 18 => .array .int
  | 19 => .array .int
  | 20 => .array .long
  | 21 => .array .long
  | 22 => .int
  | 23 => .int
  | 24 => .int
  | 25 => .int
  | 26 => .array .int
  | 27 => .array .int
  | 28 => .int
  | 29 => .int
  | 30 => .int
  | 31 => .boolean
  | 32 => .array .int
  | 33 => .int
  | 34 => .array .int
  | 35 => .array .int
  | 36 => .int
  | 37 => .int
  | 38 => .int
  | 39 => .array .int
  | 40 => .array .int
  | 41 => .array .long
  | _ => .array .long
abbrev wsX120 : List Cond := u_ws RX12 TX12 43
theorem nmX12 : ∀ a, a < 43 → ∀ b, b < 43 → a ≠ b → (TX12 a).2.1 ≠ (TX12 b).2.1 := by decide +kernel
theorem tyX12_ok : ∀ k, k < 43 → parseFieldDescriptor (TX12 k).2.2.1 = some (tyX12 k) := by decide +kernel
abbrev cX12_within : ByteArray := prog_14_method_1_code
def yX12_within : MethodName := ⟨RX12, "within", "(JJJ)Z"⟩
abbrev cX12_isIn : ByteArray := prog_14_method_2_code
def yX12_isIn : MethodName := ⟨RX12, "isIn", "(II)Z"⟩
abbrev cX12_init : ByteArray := prog_14_method_3_code
def yX12_init : MethodName := ⟨RX12, "<init>", "()V"⟩
abbrev cX12_becomes : ByteArray := prog_14_method_4_code
def yX12_becomes : MethodName := ⟨RX12, "becomes", "(II)I"⟩
abbrev cX12_undo : ByteArray := prog_14_method_5_code
def yX12_undo : MethodName := ⟨RX12, "undo", "()I"⟩
abbrev cX12_redo : ByteArray := prog_14_method_6_code
def yX12_redo : MethodName := ⟨RX12, "redo", "()I"⟩
abbrev cX12_isLetter : ByteArray := prog_14_method_7_code
def yX12_isLetter : MethodName := ⟨RX12, "isLetter", "(J)Z"⟩
abbrev cX12_isName : ByteArray := prog_14_method_8_code
def yX12_isName : MethodName := ⟨RX12, "isName", "(I)Z"⟩
abbrev cX12_at1 : ByteArray := prog_14_method_9_code
def yX12_at1 : MethodName := ⟨RX12, "at1", "(II)I"⟩
abbrev cX12_bytesIs : ByteArray := prog_14_method_10_code
def yX12_bytesIs : MethodName := ⟨RX12, "bytesIs", "(I)I"⟩
abbrev cX12_itemAt : ByteArray := prog_14_method_11_code
def yX12_itemAt : MethodName := ⟨RX12, "itemAt", "(II)J"⟩
abbrev cX12_name : ByteArray := prog_14_method_12_code
def yX12_name : MethodName := ⟨RX12, "name", "(II)I"⟩
abbrev cX12_isTwo : ByteArray := prog_14_method_13_code
def yX12_isTwo : MethodName := ⟨RX12, "isTwo", "(I)Z"⟩
abbrev cX12_alikeAt : ByteArray := prog_14_method_14_code
def yX12_alikeAt : MethodName := ⟨RX12, "alikeAt", "(II)I"⟩
abbrev cX12_placeOf : ByteArray := prog_14_method_15_code
def yX12_placeOf : MethodName := ⟨RX12, "placeOf", "(II)I"⟩
abbrev cX12_mend : ByteArray := prog_14_method_16_code
def yX12_mend : MethodName := ⟨RX12, "mend", "(III)I"⟩
abbrev cX12_of : ByteArray := prog_14_method_17_code
def yX12_of : MethodName := ⟨RX12, "of", "(II)I"⟩
abbrev cX12_letter : ByteArray := prog_14_method_18_code
def yX12_letter : MethodName := ⟨RX12, "letter", "(II)I"⟩
abbrev cX12_feed : ByteArray := prog_14_method_19_code
def yX12_feed : MethodName := ⟨RX12, "feed", "(I)I"⟩
abbrev cX12_byteAt : ByteArray := prog_14_method_20_code
def yX12_byteAt : MethodName := ⟨RX12, "byteAt", "()I"⟩
abbrev cX12_wrong : ByteArray := prog_14_method_21_code
def yX12_wrong : MethodName := ⟨RX12, "wrong", "()I"⟩
abbrev cX12_takes : ByteArray := prog_14_method_22_code
def yX12_takes : MethodName := ⟨RX12, "takes", "(I)Z"⟩
abbrev cX12_either : ByteArray := prog_14_method_23_code
def yX12_either : MethodName := ⟨RX12, "either", "()I"⟩
abbrev cX12_both : ByteArray := prog_14_method_24_code
def yX12_both : MethodName := ⟨RX12, "both", "()I"⟩
abbrev cX12_compared : ByteArray := prog_14_method_25_code
def yX12_compared : MethodName := ⟨RX12, "compared", "()I"⟩
abbrev cX12_sumsUp : ByteArray := prog_14_method_26_code
def yX12_sumsUp : MethodName := ⟨RX12, "sumsUp", "()I"⟩
abbrev cX12_product : ByteArray := prog_14_method_27_code
def yX12_product : MethodName := ⟨RX12, "product", "()I"⟩
abbrev cX12_nameOf : ByteArray := prog_14_method_28_code
def yX12_nameOf : MethodName := ⟨RX12, "nameOf", "(I)I"⟩
abbrev cX12_one : ByteArray := prog_14_method_29_code
def yX12_one : MethodName := ⟨RX12, "one", "()I"⟩
abbrev cX12_workOut : ByteArray := prog_14_method_30_code
def yX12_workOut : MethodName := ⟨RX12, "workOut", "(II)I"⟩
abbrev cX12_law : ByteArray := prog_14_method_31_code
def yX12_law : MethodName := ⟨RX12, "law", "()I"⟩
abbrev cX12_asksWeights : ByteArray := prog_14_method_32_code
def yX12_asksWeights : MethodName := ⟨RX12, "asksWeights", "(II)I"⟩
abbrev cX12_partOfHeard : ByteArray := prog_14_method_33_code
def yX12_partOfHeard : MethodName := ⟨RX12, "partOfHeard", "(IJI)I"⟩
abbrev cX12_commonOf : ByteArray := prog_14_method_34_code
def yX12_commonOf : MethodName := ⟨RX12, "commonOf", "(JJ)J"⟩
abbrev cX12_partOf : ByteArray := prog_14_method_35_code
def yX12_partOf : MethodName := ⟨RX12, "partOf", "(JJI)J"⟩
abbrev cX12_heard : ByteArray := prog_14_method_36_code
def yX12_heard : MethodName := ⟨RX12, "heard", "(III)J"⟩
abbrev cX12_productOf : ByteArray := prog_14_method_37_code
def yX12_productOf : MethodName := ⟨RX12, "productOf", "(II)J"⟩
abbrev cX12_asksProducts : ByteArray := prog_14_method_38_code
def yX12_asksProducts : MethodName := ⟨RX12, "asksProducts", "(I)J"⟩
abbrev cX12_likely : ByteArray := prog_14_method_39_code
def yX12_likely : MethodName := ⟨RX12, "likely", "(III)J"⟩
abbrev cX12_likeliestNow : ByteArray := prog_14_method_40_code
def yX12_likeliestNow : MethodName := ⟨RX12, "likeliestNow", "()I"⟩
abbrev cX12_likeliest : ByteArray := prog_14_method_41_code
def yX12_likeliest : MethodName := ⟨RX12, "likeliest", "(I)I"⟩
abbrev cX12_sure : ByteArray := prog_14_method_42_code
def yX12_sure : MethodName := ⟨RX12, "sure", "(II)I"⟩
abbrev cX12_sumOf : ByteArray := prog_14_method_43_code
def yX12_sumOf : MethodName := ⟨RX12, "sumOf", "(I)I"⟩
abbrev cX12_check : ByteArray := prog_14_method_44_code
def yX12_check : MethodName := ⟨RX12, "check", "(III)J"⟩
abbrev cX12_againAt : ByteArray := prog_14_method_45_code
def yX12_againAt : MethodName := ⟨RX12, "againAt", "(I)J"⟩
abbrev cX12_again : ByteArray := prog_14_method_46_code
def yX12_again : MethodName := ⟨RX12, "again", "(II)J"⟩
abbrev cX12_powerOf : ByteArray := prog_14_method_47_code
def yX12_powerOf : MethodName := ⟨RX12, "powerOf", "(I)J"⟩
abbrev cX12_rightBy : ByteArray := prog_14_method_48_code
def yX12_rightBy : MethodName := ⟨RX12, "rightBy", "(II)J"⟩
abbrev cX12_timeBy : ByteArray := prog_14_method_49_code
def yX12_timeBy : MethodName := ⟨RX12, "timeBy", "(II)I"⟩
abbrev cX12_isSet : ByteArray := prog_14_method_50_code
def yX12_isSet : MethodName := ⟨RX12, "isSet", "(II)Z"⟩
abbrev cX12_right : ByteArray := prog_14_method_51_code
def yX12_right : MethodName := ⟨RX12, "right", "(III)J"⟩
abbrev cX12_time : ByteArray := prog_14_method_52_code
def yX12_time : MethodName := ⟨RX12, "time", "(II)I"⟩
abbrev cX12_leastSaid : ByteArray := prog_14_method_53_code
def yX12_leastSaid : MethodName := ⟨RX12, "leastSaid", "(II)I"⟩
abbrev cX12_worst : ByteArray := prog_14_method_54_code
def yX12_worst : MethodName := ⟨RX12, "worst", "(I)I"⟩
abbrev cX12_areTwo : ByteArray := prog_14_method_55_code
def yX12_areTwo : MethodName := ⟨RX12, "areTwo", "(II)Z"⟩
abbrev cX12_heardAs : ByteArray := prog_14_method_56_code
def yX12_heardAs : MethodName := ⟨RX12, "heardAs", "(II)J"⟩
abbrev cX12_confused : ByteArray := prog_14_method_57_code
def yX12_confused : MethodName := ⟨RX12, "confused", "(II)J"⟩
abbrev cX12_nearest : ByteArray := prog_14_method_58_code
def yX12_nearest : MethodName := ⟨RX12, "nearest", "(I)I"⟩
abbrev cX12_pairs : ByteArray := prog_14_method_59_code
def yX12_pairs : MethodName := ⟨RX12, "pairs", "()I"⟩
abbrev cX12_figuresOf : ByteArray := prog_14_method_60_code
def yX12_figuresOf : MethodName := ⟨RX12, "figuresOf", "(I)I"⟩
abbrev cX12_sums : ByteArray := prog_14_method_61_code
def yX12_sums : MethodName := ⟨RX12, "sums", "(III)J"⟩
abbrev cX12_stop : ByteArray := prog_14_method_62_code
def yX12_stop : MethodName := ⟨RX12, "stop", "(II)I"⟩
abbrev cX12_misfit : ByteArray := prog_14_method_63_code
def yX12_misfit : MethodName := ⟨RX12, "misfit", "(II)I"⟩
abbrev cX12_who : ByteArray := prog_14_method_64_code
def yX12_who : MethodName := ⟨RX12, "who", "(I)I"⟩
abbrev cX12_odd : ByteArray := prog_14_method_65_code
def yX12_odd : MethodName := ⟨RX12, "odd", "(I)I"⟩
abbrev cX12_fits : ByteArray := prog_14_method_66_code
def yX12_fits : MethodName := ⟨RX12, "fits", "(II)I"⟩
abbrev cX12_draws : ByteArray := prog_14_method_67_code
def yX12_draws : MethodName := ⟨RX12, "draws", "(I)I"⟩
abbrev cX12_drawnFor : ByteArray := prog_14_method_68_code
def yX12_drawnFor : MethodName := ⟨RX12, "drawnFor", "(II)I"⟩
abbrev cX12_drawn : ByteArray := prog_14_method_69_code
def yX12_drawn : MethodName := ⟨RX12, "drawn", "(III)I"⟩
abbrev cX12_call : ByteArray := prog_14_method_70_code
def yX12_call : MethodName := ⟨RX12, "call", "(II)I"⟩
abbrev cX12_say : ByteArray := prog_14_method_71_code
def yX12_say : MethodName := ⟨RX12, "say", "(II)I"⟩
abbrev cX12_noted : ByteArray := prog_14_method_72_code
def yX12_noted : MethodName := ⟨RX12, "noted", "(I)I"⟩
abbrev cX12_wrongNoted : ByteArray := prog_14_method_73_code
def yX12_wrongNoted : MethodName := ⟨RX12, "wrongNoted", "()I"⟩
abbrev cX12_hang : ByteArray := prog_14_method_74_code
def yX12_hang : MethodName := ⟨RX12, "hang", "()I"⟩
abbrev cX12_led : ByteArray := prog_14_method_75_code
def yX12_led : MethodName := ⟨RX12, "led", "(I)I"⟩
abbrev cX12_image : ByteArray := prog_14_method_76_code
def yX12_image : MethodName := ⟨RX12, "image", "()I"⟩
abbrev cX12_back : ByteArray := prog_14_method_77_code
def yX12_back : MethodName := ⟨RX12, "back", "()I"⟩
abbrev cX12_isBody : ByteArray := prog_14_method_78_code
def yX12_isBody : MethodName := ⟨RX12, "isBody", "(I)Z"⟩
abbrev cX12_kindOf : ByteArray := prog_14_method_79_code
def yX12_kindOf : MethodName := ⟨RX12, "kindOf", "(I)I"⟩
abbrev cX12_body : ByteArray := prog_14_method_80_code
def yX12_body : MethodName := ⟨RX12, "body", "(I)I"⟩
abbrev cX12_above : ByteArray := prog_14_method_81_code
def yX12_above : MethodName := ⟨RX12, "above", "(I)I"⟩
abbrev cX12_begins : ByteArray := prog_14_method_82_code
def yX12_begins : MethodName := ⟨RX12, "begins", "(I)V"⟩
abbrev cX12_saysAs : ByteArray := prog_14_method_83_code
def yX12_saysAs : MethodName := ⟨RX12, "saysAs", "(II)I"⟩
abbrev cX12_hearsAs : ByteArray := prog_14_method_84_code
def yX12_hearsAs : MethodName := ⟨RX12, "hearsAs", "(II)I"⟩
abbrev cX12_asksAs : ByteArray := prog_14_method_85_code
def yX12_asksAs : MethodName := ⟨RX12, "asksAs", "(II)I"⟩
abbrev cX12_tellsAs : ByteArray := prog_14_method_86_code
def yX12_tellsAs : MethodName := ⟨RX12, "tellsAs", "(II)I"⟩
abbrev cX12_act : ByteArray := prog_14_method_87_code
def yX12_act : MethodName := ⟨RX12, "act", "(III)I"⟩
abbrev cX12_trace : ByteArray := prog_14_method_88_code
def yX12_trace : MethodName := ⟨RX12, "trace", "(I)I"⟩
abbrev cX12_isShelf : ByteArray := prog_14_method_89_code
def yX12_isShelf : MethodName := ⟨RX12, "isShelf", "(I)Z"⟩
abbrev cX12_keep : ByteArray := prog_14_method_90_code
def yX12_keep : MethodName := ⟨RX12, "keep", "(II)I"⟩
abbrev cX12_row : ByteArray := prog_14_method_91_code
def yX12_row : MethodName := ⟨RX12, "row", "(III)I"⟩
abbrev cX12_refusal : ByteArray := prog_14_method_92_code
def yX12_refusal : MethodName := ⟨RX12, "refusal", "(II)I"⟩
abbrev cX12_asSort : ByteArray := prog_14_method_93_code
def yX12_asSort : MethodName := ⟨RX12, "asSort", "(IJ)J"⟩
abbrev cX12_put : ByteArray := prog_14_method_94_code
def yX12_put : MethodName := ⟨RX12, "put", "(IIJ)I"⟩
abbrev cX12_element : ByteArray := prog_14_method_95_code
def yX12_element : MethodName := ⟨RX12, "element", "(II)J"⟩
abbrev cX12_shift : ByteArray := prog_14_method_96_code
def yX12_shift : MethodName := ⟨RX12, "shift", "(IIIII)I"⟩
abbrev cX12_taken : ByteArray := prog_14_method_97_code
def yX12_taken : MethodName := ⟨RX12, "taken", "(II)I"⟩
abbrev cX12_count : ByteArray := prog_14_method_98_code
def yX12_count : MethodName := ⟨RX12, "count", "(I)I"⟩
def RJx145de : String := "java/io/Serializable"
def TJx145de : u_T := fun k => match k with
  | _ => ("", "", "", false)
def tyJx145de : Nat → FieldType := fun k => match k with
  | _ => .int
abbrev wsJx145de0 : List Cond := u_ws RJx145de TJx145de 0
theorem nmJx145de : ∀ a, a < 0 → ∀ b, b < 0 → a ≠ b → (TJx145de a).2.1 ≠ (TJx145de b).2.1 := by decide +kernel
theorem tyJx145de_ok : ∀ k, k < 0 → parseFieldDescriptor (TJx145de k).2.2.1 = some (tyJx145de k) := by decide +kernel
def RJx9f9b0 : String := "java/lang/CharSequence"
def TJx9f9b0 : u_T := fun k => match k with
  | _ => ("", "", "", false)
def tyJx9f9b0 : Nat → FieldType := fun k => match k with
  | _ => .int
abbrev wsJx9f9b00 : List Cond := u_ws RJx9f9b0 TJx9f9b0 0
theorem nmJx9f9b0 : ∀ a, a < 0 → ∀ b, b < 0 → a ≠ b → (TJx9f9b0 a).2.1 ≠ (TJx9f9b0 b).2.1 := by decide +kernel
theorem tyJx9f9b0_ok : ∀ k, k < 0 → parseFieldDescriptor (TJx9f9b0 k).2.2.1 = some (tyJx9f9b0 k) := by decide +kernel
def RJ11 : String := "java/lang/Character"
def TJ11 : u_T := fun k => match k with
  | _ => ("", "", "", false)
def tyJ11 : Nat → FieldType := fun k => match k with
  | _ => .int
abbrev wsJ110 : List Cond := u_ws RJ11 TJ11 0
theorem nmJ11 : ∀ a, a < 0 → ∀ b, b < 0 → a ≠ b → (TJ11 a).2.1 ≠ (TJ11 b).2.1 := by decide +kernel
theorem tyJ11_ok : ∀ k, k < 0 → parseFieldDescriptor (TJ11 k).2.2.1 = some (tyJ11 k) := by decide +kernel
abbrev cJ11_isValidCodePoint_9a6ad : ByteArray := prog_15_method_11_code
def yJ11_isValidCodePoint_9a6ad : MethodName := ⟨RJ11, "isValidCodePoint", "(I)Z"⟩
abbrev cJ11_highSurrogate_5068e : ByteArray := prog_15_method_28_code
def yJ11_highSurrogate_5068e : MethodName := ⟨RJ11, "highSurrogate", "(I)C"⟩
abbrev cJ11_lowSurrogate_5068e : ByteArray := prog_15_method_29_code
def yJ11_lowSurrogate_5068e : MethodName := ⟨RJ11, "lowSurrogate", "(I)C"⟩
def RJxb160c : String := "java/lang/Comparable"
def TJxb160c : u_T := fun k => match k with
  | _ => ("", "", "", false)
def tyJxb160c : Nat → FieldType := fun k => match k with
  | _ => .int
abbrev wsJxb160c0 : List Cond := u_ws RJxb160c TJxb160c 0
theorem nmJxb160c : ∀ a, a < 0 → ∀ b, b < 0 → a ≠ b → (TJxb160c a).2.1 ≠ (TJxb160c b).2.1 := by decide +kernel
theorem tyJxb160c_ok : ∀ k, k < 0 → parseFieldDescriptor (TJxb160c k).2.2.1 = some (tyJxb160c k) := by decide +kernel
def RJ9 : String := "java/lang/Math"
def TJ9 : u_T := fun k => match k with
  | _ => ("", "", "", false)
def tyJ9 : Nat → FieldType := fun k => match k with
  | _ => .int
abbrev wsJ90 : List Cond := u_ws RJ9 TJ9 0
theorem nmJ9 : ∀ a, a < 0 → ∀ b, b < 0 → a ≠ b → (TJ9 a).2.1 ≠ (TJ9 b).2.1 := by decide +kernel
theorem tyJ9_ok : ∀ k, k < 0 → parseFieldDescriptor (TJ9 k).2.2.1 = some (tyJ9 k) := by decide +kernel
abbrev cJ9_max_7cf53 : ByteArray := prog_16_method_65_code
def yJ9_max_7cf53 : MethodName := ⟨RJ9, "max", "(II)I"⟩
abbrev cJ9_max_f86c9 : ByteArray := prog_16_method_66_code
def yJ9_max_f86c9 : MethodName := ⟨RJ9, "max", "(JJ)J"⟩
abbrev cJ9_min_7cf53 : ByteArray := prog_16_method_69_code
def yJ9_min_7cf53 : MethodName := ⟨RJ9, "min", "(II)I"⟩
def RJ0 : String := "java/lang/String"
def TJ0 : u_T := fun k => match k with
  | _ => ("", "", "", false)
def tyJ0 : Nat → FieldType := fun k => match k with
  | _ => .int
abbrev wsJ00 : List Cond := u_ws RJ0 TJ0 0
theorem nmJ0 : ∀ a, a < 0 → ∀ b, b < 0 → a ≠ b → (TJ0 a).2.1 ≠ (TJ0 b).2.1 := by decide +kernel
theorem tyJ0_ok : ∀ k, k < 0 → parseFieldDescriptor (TJ0 k).2.2.1 = some (tyJ0 k) := by decide +kernel
abbrev cJ0_length_8abf5 : ByteArray := prog_17_method_54_code
def yJ0_length_8abf5 : MethodName := ⟨RJ0, "length", "()I"⟩
abbrev cJ0_indexOf_0f7a4 : ByteArray := prog_17_method_79_code
def yJ0_indexOf_0f7a4 : MethodName := ⟨RJ0, "indexOf", "(I)I"⟩
abbrev cJ0_indexOf_7cf53 : ByteArray := prog_17_method_80_code
def yJ0_indexOf_7cf53 : MethodName := ⟨RJ0, "indexOf", "(II)I"⟩
abbrev cJ0_coder_7d493 : ByteArray := prog_17_method_152_code
def yJ0_coder_7d493 : MethodName := ⟨RJ0, "coder", "()B"⟩
abbrev cJ0_isLatin1_aae02 : ByteArray := prog_17_method_154_code
def yJ0_isLatin1_aae02 : MethodName := ⟨RJ0, "isLatin1", "()Z"⟩
abbrev cJ0_checkBoundsBeginEnd_23922 : ByteArray := prog_17_method_158_code
def yJ0_checkBoundsBeginEnd_23922 : MethodName := ⟨RJ0, "checkBoundsBeginEnd", "(III)V"⟩
def RJ1 : String := "java/lang/StringLatin1"
def TJ1 : u_T := fun k => match k with
  | _ => ("", "", "", false)
def tyJ1 : Nat → FieldType := fun k => match k with
  | _ => .int
abbrev wsJ10 : List Cond := u_ws RJ1 TJ1 0
theorem nmJ1 : ∀ a, a < 0 → ∀ b, b < 0 → a ≠ b → (TJ1 a).2.1 ≠ (TJ1 b).2.1 := by decide +kernel
theorem tyJ1_ok : ∀ k, k < 0 → parseFieldDescriptor (TJ1 k).2.2.1 = some (tyJ1 k) := by decide +kernel
abbrev cJ1_canEncode_9a6ad : ByteArray := prog_18_method_4_code
def yJ1_canEncode_9a6ad : MethodName := ⟨RJ1, "canEncode", "(I)Z"⟩
abbrev cJ1_indexOf_4cfef : ByteArray := prog_18_method_22_code
def yJ1_indexOf_4cfef : MethodName := ⟨RJ1, "indexOf", "([BIII)I"⟩
abbrev cJ1_indexOfChar_4cfef : ByteArray := prog_18_method_23_code
def yJ1_indexOfChar_4cfef : MethodName := ⟨RJ1, "indexOfChar", "([BIII)I"⟩
def RJ2 : String := "java/lang/StringUTF16"
def TJ2 : u_T := fun k => match k with
  | _ => ("", "", "", false)
def tyJ2 : Nat → FieldType := fun k => match k with
  | _ => .int
abbrev wsJ20 : List Cond := u_ws RJ2 TJ2 0
theorem nmJ2 : ∀ a, a < 0 → ∀ b, b < 0 → a ≠ b → (TJ2 a).2.1 ≠ (TJ2 b).2.1 := by decide +kernel
theorem tyJ2_ok : ∀ k, k < 0 → parseFieldDescriptor (TJ2 k).2.2.1 = some (tyJ2 k) := by decide +kernel
abbrev cJ2_getChar_3b067 : ByteArray := prog_19_method_5_code
def yJ2_getChar_3b067 : MethodName := ⟨RJ2, "getChar", "([BI)C"⟩
abbrev cJ2_length_9d52b : ByteArray := prog_19_method_6_code
def yJ2_length_9d52b : MethodName := ⟨RJ2, "length", "([B)I"⟩
abbrev cJ2_indexOf_4cfef : ByteArray := prog_19_method_40_code
def yJ2_indexOf_4cfef : MethodName := ⟨RJ2, "indexOf", "([BIII)I"⟩
abbrev cJ2_indexOfChar_4cfef : ByteArray := prog_19_method_47_code
def yJ2_indexOfChar_4cfef : MethodName := ⟨RJ2, "indexOfChar", "([BIII)I"⟩
abbrev cJ2_indexOfCharUnsafe_4cfef : ByteArray := prog_19_method_48_code
def yJ2_indexOfCharUnsafe_4cfef : MethodName := ⟨RJ2, "indexOfCharUnsafe", "([BIII)I"⟩
abbrev cJ2_indexOfSupplementary_4cfef : ByteArray := prog_19_method_49_code
def yJ2_indexOfSupplementary_4cfef : MethodName := ⟨RJ2, "indexOfSupplementary", "([BIII)I"⟩
abbrev cJ2_checkBoundsBeginEnd_d044e : ByteArray := prog_19_method_93_code
def yJ2_checkBoundsBeginEnd_d044e : MethodName := ⟨RJ2, "checkBoundsBeginEnd", "(II[B)V"⟩
def RJ10 : String := "java/lang/System"
def TJ10 : u_T := fun k => match k with
  | _ => ("", "", "", false)
def tyJ10 : Nat → FieldType := fun k => match k with
  | _ => .int
abbrev wsJ100 : List Cond := u_ws RJ10 TJ10 0
theorem nmJ10 : ∀ a, a < 0 → ∀ b, b < 0 → a ≠ b → (TJ10 a).2.1 ≠ (TJ10 b).2.1 := by decide +kernel
theorem tyJ10_ok : ∀ k, k < 0 → parseFieldDescriptor (TJ10 k).2.2.1 = some (tyJ10 k) := by decide +kernel
def RJxfd54e : String := "java/lang/constant/Constable"
def TJxfd54e : u_T := fun k => match k with
  | _ => ("", "", "", false)
def tyJxfd54e : Nat → FieldType := fun k => match k with
  | _ => .int
abbrev wsJxfd54e0 : List Cond := u_ws RJxfd54e TJxfd54e 0
theorem nmJxfd54e : ∀ a, a < 0 → ∀ b, b < 0 → a ≠ b → (TJxfd54e a).2.1 ≠ (TJxfd54e b).2.1 := by decide +kernel
theorem tyJxfd54e_ok : ∀ k, k < 0 → parseFieldDescriptor (TJxfd54e k).2.2.1 = some (tyJxfd54e k) := by decide +kernel
def RJx3cf43 : String := "java/lang/constant/ConstantDesc"
def TJx3cf43 : u_T := fun k => match k with
  | _ => ("", "", "", false)
def tyJx3cf43 : Nat → FieldType := fun k => match k with
  | _ => .int
abbrev wsJx3cf430 : List Cond := u_ws RJx3cf43 TJx3cf43 0
theorem nmJx3cf43 : ∀ a, a < 0 → ∀ b, b < 0 → a ≠ b → (TJx3cf43 a).2.1 ≠ (TJx3cf43 b).2.1 := by decide +kernel
theorem tyJx3cf43_ok : ∀ k, k < 0 → parseFieldDescriptor (TJx3cf43 k).2.2.1 = some (tyJx3cf43 k) := by decide +kernel
def RJ7 : String := "java/util/Arrays"
def TJ7 : u_T := fun k => match k with
  | _ => ("", "", "", false)
def tyJ7 : Nat → FieldType := fun k => match k with
  | _ => .int
abbrev wsJ70 : List Cond := u_ws RJ7 TJ7 0
theorem nmJ7 : ∀ a, a < 0 → ∀ b, b < 0 → a ≠ b → (TJ7 a).2.1 ≠ (TJ7 b).2.1 := by decide +kernel
theorem tyJ7_ok : ∀ k, k < 0 → parseFieldDescriptor (TJ7 k).2.2.1 = some (tyJ7 k) := by decide +kernel
abbrev cJ7_fill_d0a16 : ByteArray := prog_21_method_101_code
def yJ7_fill_d0a16 : MethodName := ⟨RJ7, "fill", "([JJ)V"⟩
abbrev cJ7_fill_53178 : ByteArray := prog_21_method_103_code
def yJ7_fill_53178 : MethodName := ⟨RJ7, "fill", "([II)V"⟩
def RJ3 : String := "jdk/internal/util/Preconditions"
def TJ3 : u_T := fun k => match k with
  | _ => ("", "", "", false)
def tyJ3 : Nat → FieldType := fun k => match k with
  | _ => .int
abbrev wsJ30 : List Cond := u_ws RJ3 TJ3 0
theorem nmJ3 : ∀ a, a < 0 → ∀ b, b < 0 → a ≠ b → (TJ3 a).2.1 ≠ (TJ3 b).2.1 := by decide +kernel
theorem tyJ3_ok : ∀ k, k < 0 → parseFieldDescriptor (TJ3 k).2.2.1 = some (tyJ3 k) := by decide +kernel
abbrev cJ3_checkFromToIndex_8c36e : ByteArray := prog_22_method_12_code
def yJ3_checkFromToIndex_8c36e : MethodName := ⟨RJ3, "checkFromToIndex", "(IIILjava/util/function/BiFunction;)I"⟩
def RL : String := "AsInBerthaLaw"
abbrev cL_law : ByteArray := code
def yL_law : MethodName := ⟨RL, "law", "([I)Z"⟩
abbrev classes : List vw_C := [(RX0, TX0, 7), (RX1, TX1, 8), (RX2, TX2, 4), (RX3, TX3, 4), (RX4, TX4, 4), (RX5, TX5, 8), (RX6, TX6, 4), (RX7, TX7, 4), (RX8, TX8, 4), (RX9, TX9, 4), (RX10, TX10, 4), (RX11, TX11, 12), (RX12, TX12, 43)]
/-- the words that keep: the same list for every method -/
def uw : List Cond := lw_tbl.filter goodWord
theorem uw_in {w : Cond} (i : Nat) (h : lw_tbl[i]? = some w) (hg : goodWord w = true) : w ∈ uw := List.mem_filter.mpr ⟨List.mem_of_getElem? h, hg⟩
theorem uw_good {ws : List Cond} (h : ∀ w ∈ ws, w ∈ uw) : GoodIn uw ws := fun w hw => ⟨h w hw, good_of_word (List.mem_filter.mp (h w hw)).2⟩
theorem uw_in0 {w : Cond} (i : Nat) (h : (k2_sels lw_privs)[i]? = some w) (hg : goodWord w = true) : w ∈ uw := List.mem_filter.mpr ⟨List.mem_append_left _ (List.mem_of_getElem? h), hg⟩
theorem uw_in1 {w : Cond} (i : Nat) (h0 : tables_1_1[i]? = some w) (hg : goodWord w = true) : w ∈ uw := by
  have h := List.mem_of_getElem? h0
  exact List.mem_filter.mpr ⟨List.mem_append_right _ (by unfold tables_1; exact List.mem_append_left _ (h)), hg⟩
theorem uw_in2 {w : Cond} (i : Nat) (h0 : tables_1_2[i]? = some w) (hg : goodWord w = true) : w ∈ uw := by
  have h := List.mem_of_getElem? h0
  exact List.mem_filter.mpr ⟨List.mem_append_right _ (by unfold tables_1; exact List.mem_append_right _ (List.mem_append_left _ (h))), hg⟩
theorem uw_in3 {w : Cond} (i : Nat) (h0 : tables_1_3[i]? = some w) (hg : goodWord w = true) : w ∈ uw := by
  have h := List.mem_of_getElem? h0
  exact List.mem_filter.mpr ⟨List.mem_append_right _ (by unfold tables_1; exact List.mem_append_right _ (List.mem_append_right _ (List.mem_append_left _ (h)))), hg⟩
theorem uw_in4 {w : Cond} (i : Nat) (h0 : tables_1_4[i]? = some w) (hg : goodWord w = true) : w ∈ uw := by
  have h := List.mem_of_getElem? h0
  exact List.mem_filter.mpr ⟨List.mem_append_right _ (by unfold tables_1; exact List.mem_append_right _ (List.mem_append_right _ (List.mem_append_right _ (List.mem_append_left _ (h))))), hg⟩
theorem uw_in5 {w : Cond} (i : Nat) (h0 : tables_1_5[i]? = some w) (hg : goodWord w = true) : w ∈ uw := by
  have h := List.mem_of_getElem? h0
  exact List.mem_filter.mpr ⟨List.mem_append_right _ (by unfold tables_1; exact List.mem_append_right _ (List.mem_append_right _ (List.mem_append_right _ (List.mem_append_right _ (List.mem_append_left _ (h)))))), hg⟩
theorem uw_in6 {w : Cond} (i : Nat) (h0 : tables_1_6[i]? = some w) (hg : goodWord w = true) : w ∈ uw := by
  have h := List.mem_of_getElem? h0
  exact List.mem_filter.mpr ⟨List.mem_append_right _ (by unfold tables_1; exact List.mem_append_right _ (List.mem_append_right _ (List.mem_append_right _ (List.mem_append_right _ (List.mem_append_right _ (List.mem_append_left _ (h))))))), hg⟩
theorem uw_in7 {w : Cond} (i : Nat) (h0 : tables_1_7[i]? = some w) (hg : goodWord w = true) : w ∈ uw := by
  have h := List.mem_of_getElem? h0
  exact List.mem_filter.mpr ⟨List.mem_append_right _ (by unfold tables_1; exact List.mem_append_right _ (List.mem_append_right _ (List.mem_append_right _ (List.mem_append_right _ (List.mem_append_right _ (List.mem_append_right _ (h))))))), hg⟩
set_option maxRecDepth 20000 in
theorem inU0 : ∀ w ∈ u_ws RX0 TX0 7, w ∈ uw := by decide +kernel
set_option maxRecDepth 20000 in
theorem inU1 : ∀ w ∈ u_ws RX1 TX1 8, w ∈ uw := by decide +kernel
set_option maxRecDepth 20000 in
theorem inU2 : ∀ w ∈ u_ws RX2 TX2 4, w ∈ uw := by decide +kernel
set_option maxRecDepth 20000 in
theorem inU3 : ∀ w ∈ u_ws RX3 TX3 4, w ∈ uw := by decide +kernel
set_option maxRecDepth 20000 in
theorem inU4 : ∀ w ∈ u_ws RX4 TX4 4, w ∈ uw := by decide +kernel
set_option maxRecDepth 20000 in
theorem inU5 : ∀ w ∈ u_ws RX5 TX5 8, w ∈ uw := by decide +kernel
set_option maxRecDepth 20000 in
theorem inU6 : ∀ w ∈ u_ws RX6 TX6 4, w ∈ uw := by decide +kernel
set_option maxRecDepth 20000 in
theorem inU7 : ∀ w ∈ u_ws RX7 TX7 4, w ∈ uw := by decide +kernel
set_option maxRecDepth 20000 in
theorem inU8 : ∀ w ∈ u_ws RX8 TX8 4, w ∈ uw := by decide +kernel
set_option maxRecDepth 20000 in
theorem inU9 : ∀ w ∈ u_ws RX9 TX9 4, w ∈ uw := by decide +kernel
set_option maxRecDepth 20000 in
theorem inU10 : ∀ w ∈ u_ws RX10 TX10 4, w ∈ uw := by decide +kernel
set_option maxRecDepth 20000 in
theorem inU11 : ∀ w ∈ u_ws RX11 TX11 12, w ∈ uw := by decide +kernel
set_option maxRecDepth 20000 in
theorem inU12 : ∀ w ∈ u_ws RX12 TX12 43, w ∈ uw := by decide +kernel
