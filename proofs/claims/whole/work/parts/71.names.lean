/-! ===== BEGIN printed: names, fields, word lists, decode rows ===== -/
def RX0 : String := "KindParser$Chart"
def TX0 : u_T := fun k => match k with
  | 0 => ("KindParser$Chart", "grammar", "LKindParser$Grammar;", true)
  | 1 => ("KindParser$Chart", "cut", "LKindParser$Cut;", true)
  | 2 => ("KindParser$Chart", "prices", "[J", true)
  | 3 => ("KindParser$Chart", "choices", "[B", true)
  | 4 => ("KindParser$Chart", "begun", "[J", true)
  | _ => ("KindParser$Chart", "traced", "[J", true)
def tyX0 : Nat → FieldType := fun k => match k with
  | 0 => .object "KindParser$Grammar"
  | 1 => .object "KindParser$Cut"
  | 2 => .array .long
  | 3 => .array .byte
  | 4 => .array .long
  | _ => .array .long
abbrev wsX00 : List Cond := u_ws RX0 TX0 6
theorem nmX0 : ∀ a, a < 6 → ∀ b, b < 6 → a ≠ b → (TX0 a).2.1 ≠ (TX0 b).2.1 := by decide +kernel
theorem tyX0_ok : ∀ k, k < 6 → parseFieldDescriptor (TX0 k).2.2.1 = some (tyX0 k) := by decide +kernel
abbrev cX0_init : ByteArray := prog_2_method_1_code
def yX0_init : MethodName := ⟨RX0, "<init>", "(LKindParser$Grammar;LKindParser$Cut;)V"⟩
abbrev cX0_spot : ByteArray := prog_2_method_2_code
def yX0_spot : MethodName := ⟨RX0, "spot", "(III)I"⟩
abbrev cX0_choiceSpot : ByteArray := prog_2_method_3_code
def yX0_choiceSpot : MethodName := ⟨RX0, "choiceSpot", "(III)I"⟩
abbrev cX0_begunRow : ByteArray := prog_2_method_4_code
def yX0_begunRow : MethodName := ⟨RX0, "begunRow", "(II)I"⟩
abbrev cX0_fill : ByteArray := prog_2_method_5_code
def yX0_fill : MethodName := ⟨RX0, "fill", "()V"⟩
abbrev cX0_priceLeaves : ByteArray := prog_2_method_6_code
def yX0_priceLeaves : MethodName := ⟨RX0, "priceLeaves", "()V"⟩
abbrev cX0_forget : ByteArray := prog_2_method_7_code
def yX0_forget : MethodName := ⟨RX0, "forget", "(II)V"⟩
abbrev cX0_joinInside : ByteArray := prog_2_method_8_code
def yX0_joinInside : MethodName := ⟨RX0, "joinInside", "(II)V"⟩
abbrev cX0_leastInside : ByteArray := prog_2_method_9_code
def yX0_leastInside : MethodName := ⟨RX0, "leastInside", "(IIII)J"⟩
abbrev cX0_settle : ByteArray := prog_2_method_10_code
def yX0_settle : MethodName := ⟨RX0, "settle", "(II)V"⟩
abbrev cX0_extend : ByteArray := prog_2_method_11_code
def yX0_extend : MethodName := ⟨RX0, "extend", "(III)J"⟩
abbrev cX0_choose : ByteArray := prog_2_method_12_code
def yX0_choose : MethodName := ⟨RX0, "choose", "(II)V"⟩
abbrev cX0_ruleFor : ByteArray := prog_2_method_13_code
def yX0_ruleFor : MethodName := ⟨RX0, "ruleFor", "(III)I"⟩
abbrev cX0_costOf : ByteArray := prog_2_method_14_code
def yX0_costOf : MethodName := ⟨RX0, "costOf", "(III)I"⟩
abbrev cX0_treeEnd : ByteArray := prog_2_method_15_code
def yX0_treeEnd : MethodName := ⟨RX0, "treeEnd", "()I"⟩
abbrev cX0_split : ByteArray := prog_2_method_16_code
def yX0_split : MethodName := ⟨RX0, "split", "(III[I)V"⟩
abbrev cX0_trace : ByteArray := prog_2_method_17_code
def yX0_trace : MethodName := ⟨RX0, "trace", "(III)V"⟩
def RX1 : String := "KindParser$Cut"
def TX1 : u_T := fun k => match k with
  | 0 => ("KindParser$Cut", "text", "[B", true)
  | 1 => ("KindParser$Cut", "length", "I", false)
  | 2 => ("KindParser$Cut", "starts", "[I", true)
  | 3 => ("KindParser$Cut", "lengths", "[I", true)
  | 4 => ("KindParser$Cut", "signs", "[I", true)
  | 5 => ("KindParser$Cut", "firstComments", "[I", true)
  | 6 => ("KindParser$Cut", "commentStarts", "[I", true)
  | 7 => ("KindParser$Cut", "commentEnds", "[I", true)
  | 8 => ("KindParser$Cut", "size", "I", false)
  | _ => ("KindParser$Cut", "comments", "I", false)
def tyX1 : Nat → FieldType := fun k => match k with
  | 0 => .array .byte
  | 1 => .int
  | 2 => .array .int
  | 3 => .array .int
  | 4 => .array .int
  | 5 => .array .int
  | 6 => .array .int
  | 7 => .array .int
  | 8 => .int
  | _ => .int
abbrev wsX10 : List Cond := u_ws RX1 TX1 10
theorem nmX1 : ∀ a, a < 10 → ∀ b, b < 10 → a ≠ b → (TX1 a).2.1 ≠ (TX1 b).2.1 := by decide +kernel
theorem tyX1_ok : ∀ k, k < 10 → parseFieldDescriptor (TX1 k).2.2.1 = some (tyX1 k) := by decide +kernel
abbrev cX1_init : ByteArray := prog_3_method_1_code
def yX1_init : MethodName := ⟨RX1, "<init>", "()V"⟩
abbrev cX1_read : ByteArray := prog_3_method_2_code
def yX1_read : MethodName := ⟨RX1, "read", "([BI)Z"⟩
abbrev cX1_take : ByteArray := prog_3_method_3_code
def yX1_take : MethodName := ⟨RX1, "take", "(I)I"⟩
abbrev cX1_takeComment : ByteArray := prog_3_method_4_code
def yX1_takeComment : MethodName := ⟨RX1, "takeComment", "(II)I"⟩
abbrev cX1_closing : ByteArray := prog_3_method_5_code
def yX1_closing : MethodName := ⟨RX1, "closing", "(I)I"⟩
abbrev cX1_behindDigits : ByteArray := prog_3_method_6_code
def yX1_behindDigits : MethodName := ⟨RX1, "behindDigits", "(I)I"⟩
abbrev cX1_signOf : ByteArray := prog_3_method_7_code
def yX1_signOf : MethodName := ⟨RX1, "signOf", "(I)I"⟩
abbrev cX1_lengthOf : ByteArray := prog_3_method_8_code
def yX1_lengthOf : MethodName := ⟨RX1, "lengthOf", "(I)I"⟩
abbrev cX1_commentsOf : ByteArray := prog_3_method_9_code
def yX1_commentsOf : MethodName := ⟨RX1, "commentsOf", "(I)I"⟩
abbrev cX1_beginsWithDigit : ByteArray := prog_3_method_10_code
def yX1_beginsWithDigit : MethodName := ⟨RX1, "beginsWithDigit", "(I)Z"⟩
abbrev cX1_widthOf : ByteArray := prog_3_method_11_code
def yX1_widthOf : MethodName := ⟨RX1, "widthOf", "(I)I"⟩
def RX2 : String := "KindParser$Grammar"
def TX2 : u_T := fun k => match k with
  | 0 => ("KindParser$Grammar", "heads", "[I", true)
  | 1 => ("KindParser$Grammar", "lengths", "[I", true)
  | 2 => ("KindParser$Grammar", "symbols", "[I", true)
  | 3 => ("KindParser$Grammar", "hints", "[I", true)
  | 4 => ("KindParser$Grammar", "ins", "[Z", true)
  | 5 => ("KindParser$Grammar", "ground", "[Z", true)
  | _ => ("KindParser$Grammar", "size", "I", false)
def tyX2 : Nat → FieldType := fun k => match k with
  | 0 => .array .int
  | 1 => .array .int
  | 2 => .array .int
  | 3 => .array .int
  | 4 => .array .boolean
  | 5 => .array .boolean
  | _ => .int
abbrev wsX20 : List Cond := u_ws RX2 TX2 7
theorem nmX2 : ∀ a, a < 7 → ∀ b, b < 7 → a ≠ b → (TX2 a).2.1 ≠ (TX2 b).2.1 := by decide +kernel
theorem tyX2_ok : ∀ k, k < 7 → parseFieldDescriptor (TX2 k).2.2.1 = some (tyX2 k) := by decide +kernel
abbrev cX2_init : ByteArray := prog_4_method_1_code
def yX2_init : MethodName := ⟨RX2, "<init>", "()V"⟩
abbrev cX2_symbolsIn : ByteArray := prog_4_method_2_code
def yX2_symbolsIn : MethodName := ⟨RX2, "symbolsIn", "(I)I"⟩
abbrev cX2_hintsFit : ByteArray := prog_4_method_3_code
def yX2_hintsFit : MethodName := ⟨RX2, "hintsFit", "(II)Z"⟩
abbrev cX2_add : ByteArray := prog_4_method_4_code
def yX2_add : MethodName := ⟨RX2, "add", "(IIIZ)I"⟩
abbrev cX2_hasGround : ByteArray := prog_4_method_5_code
def yX2_hasGround : MethodName := ⟨RX2, "hasGround", "(I)Z"⟩
abbrev cX2_findGround : ByteArray := prog_4_method_6_code
def yX2_findGround : MethodName := ⟨RX2, "findGround", "()V"⟩
abbrev cX2_standsOnGround : ByteArray := prog_4_method_7_code
def yX2_standsOnGround : MethodName := ⟨RX2, "standsOnGround", "(I)Z"⟩
abbrev cX2_symbolOf : ByteArray := prog_4_method_8_code
def yX2_symbolOf : MethodName := ⟨RX2, "symbolOf", "(II)I"⟩
abbrev cX2_hintOf : ByteArray := prog_4_method_9_code
def yX2_hintOf : MethodName := ⟨RX2, "hintOf", "(II)I"⟩
def RX3 : String := "KindParser$Page"
def TX3 : u_T := fun k => match k with
  | 0 => ("KindParser$Page", "grammar", "LKindParser$Grammar;", true)
  | 1 => ("KindParser$Page", "cut", "LKindParser$Cut;", true)
  | 2 => ("KindParser$Page", "tree", "LKindParser$Tree;", true)
  | 3 => ("KindParser$Page", "sheet", "[B", true)
  | 4 => ("KindParser$Page", "flats", "[I", true)
  | 5 => ("KindParser$Page", "broken", "[Z", true)
  | 6 => ("KindParser$Page", "indents", "[I", true)
  | 7 => ("KindParser$Page", "size", "I", false)
  | _ => ("KindParser$Page", "column", "I", false)
def tyX3 : Nat → FieldType := fun k => match k with
  | 0 => .object "KindParser$Grammar"
  | 1 => .object "KindParser$Cut"
  | 2 => .object "KindParser$Tree"
  | 3 => .array .byte
  | 4 => .array .int
  | 5 => .array .boolean
  | 6 => .array .int
  | 7 => .int
  | _ => .int
abbrev wsX30 : List Cond := u_ws RX3 TX3 9
theorem nmX3 : ∀ a, a < 9 → ∀ b, b < 9 → a ≠ b → (TX3 a).2.1 ≠ (TX3 b).2.1 := by decide +kernel
theorem tyX3_ok : ∀ k, k < 9 → parseFieldDescriptor (TX3 k).2.2.1 = some (tyX3 k) := by decide +kernel
abbrev cX3_init : ByteArray := prog_5_method_1_code
def yX3_init : MethodName := ⟨RX3, "<init>", "(LKindParser$Grammar;LKindParser$Cut;LKindParser$Tree;)V"⟩
abbrev cX3_at : ByteArray := prog_5_method_2_code
def yX3_at : MethodName := ⟨RX3, "at", "(I)I"⟩
abbrev cX3_layOut : ByteArray := prog_5_method_3_code
def yX3_layOut : MethodName := ⟨RX3, "layOut", "(I)V"⟩
abbrev cX3_measure : ByteArray := prog_5_method_4_code
def yX3_measure : MethodName := ⟨RX3, "measure", "()V"⟩
abbrev cX3_leafWidth : ByteArray := prog_5_method_5_code
def yX3_leafWidth : MethodName := ⟨RX3, "leafWidth", "(I)I"⟩
abbrev cX3_hasGap : ByteArray := prog_5_method_6_code
def yX3_hasGap : MethodName := ⟨RX3, "hasGap", "(I)Z"⟩
abbrev cX3_flatGap : ByteArray := prog_5_method_7_code
def yX3_flatGap : MethodName := ⟨RX3, "flatGap", "(I)I"⟩
abbrev cX3_layPart : ByteArray := prog_5_method_8_code
def yX3_layPart : MethodName := ⟨RX3, "layPart", "(II)V"⟩
abbrev cX3_layGap : ByteArray := prog_5_method_9_code
def yX3_layGap : MethodName := ⟨RX3, "layGap", "(II)V"⟩
abbrev cX3_layTokens : ByteArray := prog_5_method_10_code
def yX3_layTokens : MethodName := ⟨RX3, "layTokens", "(II)V"⟩
abbrev cX3_layComments : ByteArray := prog_5_method_11_code
def yX3_layComments : MethodName := ⟨RX3, "layComments", "(I)V"⟩
abbrev cX3_layEnd : ByteArray := prog_5_method_12_code
def yX3_layEnd : MethodName := ⟨RX3, "layEnd", "()V"⟩
abbrev cX3_layText : ByteArray := prog_5_method_13_code
def yX3_layText : MethodName := ⟨RX3, "layText", "(II)V"⟩
abbrev cX3_put : ByteArray := prog_5_method_14_code
def yX3_put : MethodName := ⟨RX3, "put", "(I)V"⟩
def RX4 : String := "KindParser$Tree"
def TX4 : u_T := fun k => match k with
  | 0 => ("KindParser$Tree", "grammar", "LKindParser$Grammar;", true)
  | 1 => ("KindParser$Tree", "chart", "LKindParser$Chart;", true)
  | 2 => ("KindParser$Tree", "cells", "[I", true)
  | 3 => ("KindParser$Tree", "hints", "[I", true)
  | 4 => ("KindParser$Tree", "within", "[I", true)
  | 5 => ("KindParser$Tree", "begins", "[I", true)
  | 6 => ("KindParser$Tree", "waitSymbols", "[I", true)
  | 7 => ("KindParser$Tree", "waitParents", "[I", true)
  | 8 => ("KindParser$Tree", "waitFirsts", "[I", true)
  | 9 => ("KindParser$Tree", "waitEnds", "[I", true)
  | 10 => ("KindParser$Tree", "waitHints", "[I", true)
  | 11 => ("KindParser$Tree", "waiting", "I", false)
  | 12 => ("KindParser$Tree", "size", "I", false)
  | _ => ("KindParser$Tree", "skipped", "I", false)
def tyX4 : Nat → FieldType := fun k => match k with
  | 0 => .object "KindParser$Grammar"
  | 1 => .object "KindParser$Chart"
  | 2 => .array .int
  | 3 => .array .int
  | 4 => .array .int
  | 5 => .array .int
  | 6 => .array .int
  | 7 => .array .int
  | 8 => .array .int
  | 9 => .array .int
  | 10 => .array .int
  | 11 => .int
  | 12 => .int
  | _ => .int
abbrev wsX40 : List Cond := u_ws RX4 TX4 14
theorem nmX4 : ∀ a, a < 14 → ∀ b, b < 14 → a ≠ b → (TX4 a).2.1 ≠ (TX4 b).2.1 := by decide +kernel
theorem tyX4_ok : ∀ k, k < 14 → parseFieldDescriptor (TX4 k).2.2.1 = some (tyX4 k) := by decide +kernel
abbrev cX4_init : ByteArray := prog_6_method_1_code
def yX4_init : MethodName := ⟨RX4, "<init>", "(LKindParser$Grammar;LKindParser$Chart;)V"⟩
abbrev cX4_drop : ByteArray := prog_6_method_2_code
def yX4_drop : MethodName := ⟨RX4, "drop", "()V"⟩
abbrev cX4_cell : ByteArray := prog_6_method_3_code
def yX4_cell : MethodName := ⟨RX4, "cell", "(II)I"⟩
abbrev cX4_isLeaf : ByteArray := prog_6_method_4_code
def yX4_isLeaf : MethodName := ⟨RX4, "isLeaf", "(I)Z"⟩
abbrev cX4_grow : ByteArray := prog_6_method_5_code
def yX4_grow : MethodName := ⟨RX4, "grow", "(I)Z"⟩
abbrev cX4_await : ByteArray := prog_6_method_6_code
def yX4_await : MethodName := ⟨RX4, "await", "(IIIII)Z"⟩
abbrev cX4_placeNext : ByteArray := prog_6_method_7_code
def yX4_placeNext : MethodName := ⟨RX4, "placeNext", "()Z"⟩
abbrev cX4_leafState : ByteArray := prog_6_method_8_code
def yX4_leafState : MethodName := ⟨RX4, "leafState", "(I)I"⟩
abbrev cX4_placeNode : ByteArray := prog_6_method_9_code
def yX4_placeNode : MethodName := ⟨RX4, "placeNode", "(IIII)Z"⟩
def RX5 : String := "KindParser"
def TX5 : u_T := fun k => match k with
  | 0 => ("KindParser", "grammar", "LKindParser$Grammar;", true)
  | 1 => ("KindParser", "text", "[B", true)
  | 2 => ("KindParser", "length", "I", false)
  | 3 => ("KindParser", "cut", "LKindParser$Cut;", true)
  | 4 => ("KindParser", "chart", "LKindParser$Chart;", true)
  | 5 => ("KindParser", "tree", "LKindParser$Tree;", true)
  | 6 => ("KindParser", "page", "LKindParser$Page;", true)
  | 7 => ("KindParser", "repaired", "I", false)
  | _ => ("KindParser", "spent", "I", false)
def tyX5 : Nat → FieldType := fun k => match k with
  | 0 => .object "KindParser$Grammar"
  | 1 => .array .byte
  | 2 => .int
  | 3 => .object "KindParser$Cut"
  | 4 => .object "KindParser$Chart"
  | 5 => .object "KindParser$Tree"
  | 6 => .object "KindParser$Page"
  | 7 => .int
  | _ => .int
abbrev wsX50 : List Cond := u_ws RX5 TX5 9
theorem nmX5 : ∀ a, a < 9 → ∀ b, b < 9 → a ≠ b → (TX5 a).2.1 ≠ (TX5 b).2.1 := by decide +kernel
theorem tyX5_ok : ∀ k, k < 9 → parseFieldDescriptor (TX5 k).2.2.1 = some (tyX5 k) := by decide +kernel
abbrev cX5_init : ByteArray := prog_1_method_1_code
def yX5_init : MethodName := ⟨RX5, "<init>", "()V"⟩
abbrev cX5_rule : ByteArray := prog_1_method_2_code
def yX5_rule : MethodName := ⟨RX5, "rule", "(IIIZ)I"⟩
abbrev cX5_write : ByteArray := prog_1_method_3_code
def yX5_write : MethodName := ⟨RX5, "write", "(JI)I"⟩
abbrev cX5_erase : ByteArray := prog_1_method_4_code
def yX5_erase : MethodName := ⟨RX5, "erase", "()I"⟩
abbrev cX5_repair : ByteArray := prog_1_method_5_code
def yX5_repair : MethodName := ⟨RX5, "repair", "()I"⟩
abbrev cX5_tokens : ByteArray := prog_1_method_6_code
def yX5_tokens : MethodName := ⟨RX5, "tokens", "()I"⟩
abbrev cX5_token : ByteArray := prog_1_method_7_code
def yX5_token : MethodName := ⟨RX5, "token", "(II)I"⟩
abbrev cX5_parts : ByteArray := prog_1_method_8_code
def yX5_parts : MethodName := ⟨RX5, "parts", "()I"⟩
abbrev cX5_part : ByteArray := prog_1_method_9_code
def yX5_part : MethodName := ⟨RX5, "part", "(II)I"⟩
abbrev cX5_rest : ByteArray := prog_1_method_10_code
def yX5_rest : MethodName := ⟨RX5, "rest", "()I"⟩
abbrev cX5_print : ByteArray := prog_1_method_11_code
def yX5_print : MethodName := ⟨RX5, "print", "(I)I"⟩
abbrev cX5_character : ByteArray := prog_1_method_12_code
def yX5_character : MethodName := ⟨RX5, "character", "(I)I"⟩
abbrev cX5_grounded : ByteArray := prog_1_method_13_code
def yX5_grounded : MethodName := ⟨RX5, "grounded", "(I)Z"⟩
abbrev cX5_count : ByteArray := prog_1_method_14_code
def yX5_count : MethodName := ⟨RX5, "count", "(I)I"⟩
abbrev cX5_isKind : ByteArray := prog_1_method_15_code
def yX5_isKind : MethodName := ⟨RX5, "isKind", "(I)Z"⟩
abbrev cX5_byteOf : ByteArray := prog_1_method_16_code
def yX5_byteOf : MethodName := ⟨RX5, "byteOf", "(JI)I"⟩
abbrev cX5_areCharacters : ByteArray := prog_1_method_17_code
def yX5_areCharacters : MethodName := ⟨RX5, "areCharacters", "(JI)Z"⟩
abbrev cX5_isDigit : ByteArray := prog_1_method_18_code
def yX5_isDigit : MethodName := ⟨RX5, "isDigit", "(I)Z"⟩
def RX6 : String := "KindParserModel"
def TX6 : u_T := fun k => match k with
  | 0 => ("KindParserModel", "thrown", "I", false)
  | 1 => ("KindParserModel", "rules", "I", false)
  | 2 => ("KindParserModel", "head", "[I", true)
  | 3 => ("KindParserModel", "size", "[I", true)
  | 4 => ("KindParserModel", "symbol", "[I", true)
  | 5 => ("KindParserModel", "hint", "[I", true)
  | 6 => ("KindParserModel", "in", "[Z", true)
  | 7 => ("KindParserModel", "length", "I", false)
  | 8 => ("KindParserModel", "text", "[I", true)
  | 9 => ("KindParserModel", "tree", "Z", false)
  | 10 => ("KindParserModel", "kept", "[I", true)
  | 11 => ("KindParserModel", "tokens", "I", false)
  | 12 => ("KindParserModel", "tokenAt", "[I", true)
  | 13 => ("KindParserModel", "tokenLength", "[I", true)
  | 14 => ("KindParserModel", "sign", "[I", true)
  | 15 => ("KindParserModel", "comments", "I", false)
  | 16 => ("KindParserModel", "commentAt", "[I", true)
  | 17 => ("KindParserModel", "commentLength", "[I", true)
  | 18 => ("KindParserModel", "firstComment", "[I", true)
  | 19 => ("KindParserModel", "best", "[J", true)
  | 20 => ("KindParserModel", "row", "[J", true)
  | 21 => ("KindParserModel", "cut", "[I", true)
  | 22 => ("KindParserModel", "parts", "I", false)
  | 23 => ("KindParserModel", "ruleOf", "[I", true)
  | 24 => ("KindParserModel", "symbolOf", "[I", true)
  | 25 => ("KindParserModel", "parent", "[I", true)
  | 26 => ("KindParserModel", "place", "[I", true)
  | 27 => ("KindParserModel", "from", "[I", true)
  | 28 => ("KindParserModel", "to", "[I", true)
  | 29 => ("KindParserModel", "cost", "[I", true)
  | 30 => ("KindParserModel", "deep", "[I", true)
  | 31 => ("KindParserModel", "end", "I", false)
  | 32 => ("KindParserModel", "open", "I", false)
  | 33 => ("KindParserModel", "waiting", "[I", true)
  | 34 => ("KindParserModel", "wide", "[I", true)
  | 35 => ("KindParserModel", "begins", "[I", true)
  | 36 => ("KindParserModel", "started", "[Z", true)
  | 37 => ("KindParserModel", "broken", "[Z", true)
  | 38 => ("KindParserModel", "column", "I", false)
  | 39 => ("KindParserModel", "printed", "I", false)
  | 40 => ("KindParserModel", "print", "[I", true)
  | 41 => ("KindParserModel", "repaired", "I", false)
  | _ => ("KindParserModel", "paid", "I", false)
def tyX6 : Nat → FieldType := fun k => match k with
  | 0 => .int
  | 1 => .int
  | 2 => .array .int
  | 3 => .array .int
  | 4 => .array .int
  | 5 => .array .int
  | 6 => .array .boolean
  | 7 => .int
  | 8 => .array .int
  | 9 => .boolean
  | 10 => .array .int
  | 11 => .int
  | 12 => .array .int
  | 13 => .array .int
  | 14 => .array .int
  | 15 => .int
  | 16 => .array .int
  | 17 => .array .int
  | 18 => .array .int
  | 19 => .array .long
  | 20 => .array .long
  | 21 => .array .int
  | 22 => .int
  | 23 => .array .int
  | 24 => .array .int
  | 25 => .array .int
  | 26 => .array .int
  | 27 => .array .int
  | 28 => .array .int
  | 29 => .array .int
  | 30 => .array .int
  | 31 => .int
  | 32 => .int
  | 33 => .array .int
  | 34 => .array .int
  | 35 => .array .int
  | 36 => .array .boolean
  | 37 => .array .boolean
  | 38 => .int
  | 39 => .int
  | 40 => .array .int
  | 41 => .int
  | _ => .int
abbrev wsX60 : List Cond := u_ws RX6 TX6 43
theorem nmX6 : ∀ a, a < 43 → ∀ b, b < 43 → a ≠ b → (TX6 a).2.1 ≠ (TX6 b).2.1 := by decide +kernel
theorem tyX6_ok : ∀ k, k < 43 → parseFieldDescriptor (TX6 k).2.2.1 = some (tyX6 k) := by decide +kernel
abbrev cX6_init : ByteArray := prog_8_method_1_code
def yX6_init : MethodName := ⟨RX6, "<init>", "()V"⟩
abbrev cX6_thrown : ByteArray := prog_8_method_2_code
def yX6_thrown : MethodName := ⟨RX6, "thrown", "()I"⟩
abbrev cX6_fail : ByteArray := prog_8_method_3_code
def yX6_fail : MethodName := ⟨RX6, "fail", "(I)I"⟩
abbrev cX6_below : ByteArray := prog_8_method_4_code
def yX6_below : MethodName := ⟨RX6, "below", "(II)Z"⟩
abbrev cX6_rule : ByteArray := prog_8_method_5_code
def yX6_rule : MethodName := ⟨RX6, "rule", "(IIIZ)I"⟩
abbrev cX6_write : ByteArray := prog_8_method_6_code
def yX6_write : MethodName := ⟨RX6, "write", "(JI)I"⟩
abbrev cX6_erase : ByteArray := prog_8_method_7_code
def yX6_erase : MethodName := ⟨RX6, "erase", "()I"⟩
abbrev cX6_ground : ByteArray := prog_8_method_8_code
def yX6_ground : MethodName := ⟨RX6, "ground", "()I"⟩
abbrev cX6_grounded : ByteArray := prog_8_method_9_code
def yX6_grounded : MethodName := ⟨RX6, "grounded", "(I)Z"⟩
abbrev cX6_commentEnd : ByteArray := prog_8_method_10_code
def yX6_commentEnd : MethodName := ⟨RX6, "commentEnd", "(I)I"⟩
abbrev cX6_tokenEnd : ByteArray := prog_8_method_11_code
def yX6_tokenEnd : MethodName := ⟨RX6, "tokenEnd", "(I)I"⟩
abbrev cX6_cutText : ByteArray := prog_8_method_12_code
def yX6_cutText : MethodName := ⟨RX6, "cutText", "()Z"⟩
abbrev cX6_sum : ByteArray := prog_8_method_13_code
def yX6_sum : MethodName := ⟨RX6, "sum", "(JJ)J"⟩
abbrev cX6_price : ByteArray := prog_8_method_14_code
def yX6_price : MethodName := ⟨RX6, "price", "(III)J"⟩
abbrev cX6_fill : ByteArray := prog_8_method_15_code
def yX6_fill : MethodName := ⟨RX6, "fill", "(II)V"⟩
abbrev cX6_prices : ByteArray := prog_8_method_16_code
def yX6_prices : MethodName := ⟨RX6, "prices", "()V"⟩
abbrev cX6_push : ByteArray := prog_8_method_17_code
def yX6_push : MethodName := ⟨RX6, "push", "(IIIII)V"⟩
abbrev cX6_choose : ByteArray := prog_8_method_18_code
def yX6_choose : MethodName := ⟨RX6, "choose", "(III)I"⟩
abbrev cX6_grow : ByteArray := prog_8_method_19_code
def yX6_grow : MethodName := ⟨RX6, "grow", "()Z"⟩
abbrev cX6_repair : ByteArray := prog_8_method_20_code
def yX6_repair : MethodName := ⟨RX6, "repair", "()I"⟩
abbrev cX6_put : ByteArray := prog_8_method_21_code
def yX6_put : MethodName := ⟨RX6, "put", "(I)V"⟩
abbrev cX6_putTokens : ByteArray := prog_8_method_22_code
def yX6_putTokens : MethodName := ⟨RX6, "putTokens", "(IIZ)V"⟩
abbrev cX6_width : ByteArray := prog_8_method_23_code
def yX6_width : MethodName := ⟨RX6, "width", "(II)I"⟩
abbrev cX6_hintOf : ByteArray := prog_8_method_24_code
def yX6_hintOf : MethodName := ⟨RX6, "hintOf", "(I)I"⟩
abbrev cX6_digit : ByteArray := prog_8_method_25_code
def yX6_digit : MethodName := ⟨RX6, "digit", "(I)Z"⟩
abbrev cX6_measure : ByteArray := prog_8_method_26_code
def yX6_measure : MethodName := ⟨RX6, "measure", "()V"⟩
abbrev cX6_joint : ByteArray := prog_8_method_27_code
def yX6_joint : MethodName := ⟨RX6, "joint", "(I)I"⟩
abbrev cX6_between : ByteArray := prog_8_method_28_code
def yX6_between : MethodName := ⟨RX6, "between", "(I)V"⟩
abbrev cX6_start : ByteArray := prog_8_method_29_code
def yX6_start : MethodName := ⟨RX6, "start", "(III)V"⟩
abbrev cX6_print : ByteArray := prog_8_method_30_code
def yX6_print : MethodName := ⟨RX6, "print", "(I)I"⟩
abbrev cX6_tokens : ByteArray := prog_8_method_31_code
def yX6_tokens : MethodName := ⟨RX6, "tokens", "()I"⟩
abbrev cX6_token : ByteArray := prog_8_method_32_code
def yX6_token : MethodName := ⟨RX6, "token", "(II)I"⟩
abbrev cX6_parts : ByteArray := prog_8_method_33_code
def yX6_parts : MethodName := ⟨RX6, "parts", "()I"⟩
abbrev cX6_part : ByteArray := prog_8_method_34_code
def yX6_part : MethodName := ⟨RX6, "part", "(II)I"⟩
abbrev cX6_rest : ByteArray := prog_8_method_35_code
def yX6_rest : MethodName := ⟨RX6, "rest", "()I"⟩
abbrev cX6_character : ByteArray := prog_8_method_36_code
def yX6_character : MethodName := ⟨RX6, "character", "(I)I"⟩
abbrev cX6_count : ByteArray := prog_8_method_37_code
def yX6_count : MethodName := ⟨RX6, "count", "(I)I"⟩
def RJ9 : String := "java/lang/Math"
def TJ9 : u_T := fun k => match k with
  | _ => ("", "", "", false)
def tyJ9 : Nat → FieldType := fun k => match k with
  | _ => .int
abbrev wsJ90 : List Cond := u_ws RJ9 TJ9 0
theorem nmJ9 : ∀ a, a < 0 → ∀ b, b < 0 → a ≠ b → (TJ9 a).2.1 ≠ (TJ9 b).2.1 := by decide +kernel
theorem tyJ9_ok : ∀ k, k < 0 → parseFieldDescriptor (TJ9 k).2.2.1 = some (tyJ9 k) := by decide +kernel
abbrev cJ9_max_7cf53 : ByteArray := prog_13_method_65_code
def yJ9_max_7cf53 : MethodName := ⟨RJ9, "max", "(II)I"⟩
abbrev cJ9_min_7cf53 : ByteArray := prog_13_method_69_code
def yJ9_min_7cf53 : MethodName := ⟨RJ9, "min", "(II)I"⟩
abbrev cJ9_min_f86c9 : ByteArray := prog_13_method_70_code
def yJ9_min_f86c9 : MethodName := ⟨RJ9, "min", "(JJ)J"⟩
def RJ0 : String := "java/lang/String"
def TJ0 : u_T := fun k => match k with
  | _ => ("", "", "", false)
def tyJ0 : Nat → FieldType := fun k => match k with
  | _ => .int
abbrev wsJ00 : List Cond := u_ws RJ0 TJ0 0
theorem nmJ0 : ∀ a, a < 0 → ∀ b, b < 0 → a ≠ b → (TJ0 a).2.1 ≠ (TJ0 b).2.1 := by decide +kernel
theorem tyJ0_ok : ∀ k, k < 0 → parseFieldDescriptor (TJ0 k).2.2.1 = some (tyJ0 k) := by decide +kernel
def RJ10 : String := "java/lang/System"
def TJ10 : u_T := fun k => match k with
  | _ => ("", "", "", false)
def tyJ10 : Nat → FieldType := fun k => match k with
  | _ => .int
abbrev wsJ100 : List Cond := u_ws RJ10 TJ10 0
theorem nmJ10 : ∀ a, a < 0 → ∀ b, b < 0 → a ≠ b → (TJ10 a).2.1 ≠ (TJ10 b).2.1 := by decide +kernel
theorem tyJ10_ok : ∀ k, k < 0 → parseFieldDescriptor (TJ10 k).2.2.1 = some (tyJ10 k) := by decide +kernel
def RL : String := "KindParserLaw"
abbrev cL_rule : ByteArray := method_3_code
def yL_rule : MethodName := ⟨RL, "rule", "(LKindParser;IIIZ[J)I"⟩
abbrev cL_write : ByteArray := method_4_code
def yL_write : MethodName := ⟨RL, "write", "(LKindParser;JI[J)I"⟩
abbrev cL_repair : ByteArray := method_5_code
def yL_repair : MethodName := ⟨RL, "repair", "(LKindParser;[J)I"⟩
abbrev cL_token : ByteArray := method_6_code
def yL_token : MethodName := ⟨RL, "token", "(LKindParser;II[J)I"⟩
abbrev cL_part : ByteArray := method_7_code
def yL_part : MethodName := ⟨RL, "part", "(LKindParser;II[J)I"⟩
abbrev cL_rest : ByteArray := method_8_code
def yL_rest : MethodName := ⟨RL, "rest", "(LKindParser;[J)I"⟩
abbrev cL_print : ByteArray := method_9_code
def yL_print : MethodName := ⟨RL, "print", "(LKindParser;I[J)I"⟩
abbrev cL_character : ByteArray := method_10_code
def yL_character : MethodName := ⟨RL, "character", "(LKindParser;I[J)I"⟩
abbrev cL_law : ByteArray := code
def yL_law : MethodName := ⟨RL, "law", "([I)Z"⟩
def wsX0_init : List Cond := .code yX0_init cX0_init 3 none :: ([.methodLink RX0 5 objectInit, .instanceMethod objectInit, .code objectInit ⟨#[0xb1]⟩ 1 none, .arrayClass .long, .fieldLink RX0 11 "KindParser$Chart" "prices" "[J", .arrayClass .byte, .fieldLink RX0 15 "KindParser$Chart" "choices" "[B", .fieldLink RX0 19 "KindParser$Chart" "begun" "[J", .fieldLink RX0 22 "KindParser$Chart" "traced" "[J", .fieldLink RX0 25 "KindParser$Chart" "grammar" "LKindParser$Grammar;", .fieldLink RX0 29 "KindParser$Chart" "cut" "LKindParser$Cut;"] ++ wsX00)
def wsX0_spot : List Cond := .code yX0_spot cX0_spot 3 (some .int) :: ([])
def wsX0_choiceSpot : List Cond := .code yX0_choiceSpot cX0_choiceSpot 3 (some .int) :: ([])
def wsX0_begunRow : List Cond := .code yX0_begunRow cX0_begunRow 2 (some .int) :: ([])
def wsX1_signOf : List Cond := .code yX1_signOf cX1_signOf 2 (some .int) :: ([.fieldLink RX1 38 "KindParser$Cut" "size" "I", .fieldLink RX1 26 "KindParser$Cut" "signs" "[I"] ++ wsX10)
def wsX0_priceLeaves : List Cond := .code yX0_priceLeaves cX0_priceLeaves 6 none :: ([.fieldLink RX0 29 "KindParser$Chart" "cut" "LKindParser$Cut;", .fieldLink RX0 11 "KindParser$Chart" "prices" "[J", .constantLong RX0 59 (4294967296), .methodLink RX0 55 yX0_spot, .static yX0_spot, .initialized RX0, .code yX0_spot cX0_spot 3 (some .int), .methodLink RX0 61 yX1_signOf, .instanceMethod yX1_signOf, .selects RX1 yX1_signOf yX1_signOf, .initialized RX1, .code yX1_signOf cX1_signOf 2 (some .int), .fieldLink RX1 38 "KindParser$Cut" "size" "I", .fieldLink RX1 26 "KindParser$Cut" "signs" "[I"] ++ wsX00 ++ wsX10)
def wsX0_forget : List Cond := .code yX0_forget cX0_forget 4 none :: ([.fieldLink RX0 11 "KindParser$Chart" "prices" "[J", .constantLong RX0 65 (1152921504606846976), .fieldLink RX0 15 "KindParser$Chart" "choices" "[B", .methodLink RX0 55 yX0_spot, .static yX0_spot, .initialized RX0, .code yX0_spot cX0_spot 3 (some .int), .methodLink RX0 67 yX0_choiceSpot, .static yX0_choiceSpot, .code yX0_choiceSpot cX0_choiceSpot 3 (some .int)] ++ wsX00)
def wsX2_symbolOf : List Cond := .code yX2_symbolOf cX2_symbolOf 3 (some .int) :: ([.fieldLink RX2 18 "KindParser$Grammar" "symbols" "[I"] ++ wsX20)
def wsX0_leastInside : List Cond := .code yX0_leastInside cX0_leastInside 9 (some .long) :: ([.constantLong RX0 65 (1152921504606846976), .fieldLink RX0 19 "KindParser$Chart" "begun" "[J", .fieldLink RX0 11 "KindParser$Chart" "prices" "[J", .methodLink RX0 88 Lib.MathLoose.min_long.x, .static Lib.MathLoose.min_long.x, .initialized "java/lang/Math", .code Lib.MathLoose.min_long.x Lib.MathLoose.min_long.code 4 (some .long), .methodLink RX0 55 yX0_spot, .static yX0_spot, .initialized RX0, .code yX0_spot cX0_spot 3 (some .int)] ++ wsX00)
def wsX0_joinInside_r1 : List Cond := [Cond.fieldLink RX0 25 "KindParser$Chart" "grammar" "LKindParser$Grammar;", Cond.fieldLink RX0 19 "KindParser$Chart" "begun" "[J", Cond.constantLong RX0 65 (1152921504606846976), Cond.methodLink RX0 73 yX0_begunRow, Cond.static yX0_begunRow, Cond.initialized RX0, Cond.code yX0_begunRow cX0_begunRow 2 (some .int), Cond.methodLink RX0 81 yX2_symbolOf, Cond.instanceMethod yX2_symbolOf, Cond.selects RX2 yX2_symbolOf yX2_symbolOf, Cond.initialized RX2, Cond.code yX2_symbolOf cX2_symbolOf 3 (some .int), Cond.fieldLink RX2 18 "KindParser$Grammar" "symbols" "[I", Cond.methodLink RX0 84 yX0_leastInside, Cond.instanceMethod yX0_leastInside, Cond.selects RX0 yX0_leastInside yX0_leastInside, Cond.code yX0_leastInside cX0_leastInside 9 (some .long), Cond.fieldLink RX0 11 "KindParser$Chart" "prices" "[J", Cond.methodLink RX0 88 Lib.MathLoose.min_long.x, Cond.static Lib.MathLoose.min_long.x, Cond.initialized "java/lang/Math", Cond.code Lib.MathLoose.min_long.x Lib.MathLoose.min_long.code 4 (some .long), Cond.methodLink RX0 55 yX0_spot, Cond.static yX0_spot]
def wsX0_joinInside_r2 : List Cond := [Cond.code yX0_spot cX0_spot 3 (some .int)]
def wsX0_joinInside : List Cond := .code yX0_joinInside cX0_joinInside 6 none :: ((wsX0_joinInside_r1 ++ wsX0_joinInside_r2) ++ wsX00 ++ wsX20)
def wsX0_extend : List Cond := .code yX0_extend cX0_extend 11 (some .long) :: ([.fieldLink RX0 25 "KindParser$Chart" "grammar" "LKindParser$Grammar;", .fieldLink RX0 19 "KindParser$Chart" "begun" "[J", .fieldLink RX0 11 "KindParser$Chart" "prices" "[J", .methodLink RX0 88 Lib.MathLoose.min_long.x, .static Lib.MathLoose.min_long.x, .initialized "java/lang/Math", .code Lib.MathLoose.min_long.x Lib.MathLoose.min_long.code 4 (some .long), .methodLink RX0 73 yX0_begunRow, .static yX0_begunRow, .initialized RX0, .code yX0_begunRow cX0_begunRow 2 (some .int), .methodLink RX0 81 yX2_symbolOf, .instanceMethod yX2_symbolOf, .selects RX2 yX2_symbolOf yX2_symbolOf, .initialized RX2, .code yX2_symbolOf cX2_symbolOf 3 (some .int), .fieldLink RX2 18 "KindParser$Grammar" "symbols" "[I", .methodLink RX0 55 yX0_spot, .static yX0_spot, .code yX0_spot cX0_spot 3 (some .int)] ++ wsX00 ++ wsX20)
def wsX0_settle : List Cond := .code yX0_settle cX0_settle 9 none :: ([.fieldLink RX0 25 "KindParser$Chart" "grammar" "LKindParser$Grammar;", .fieldLink RX0 11 "KindParser$Chart" "prices" "[J", .methodLink RX0 55 yX0_spot, .static yX0_spot, .initialized RX0, .code yX0_spot cX0_spot 3 (some .int), .methodLink RX0 97 yX0_extend, .instanceMethod yX0_extend, .selects RX0 yX0_extend yX0_extend, .code yX0_extend cX0_extend 11 (some .long), .fieldLink RX0 19 "KindParser$Chart" "begun" "[J", .methodLink RX0 88 Lib.MathLoose.min_long.x, .static Lib.MathLoose.min_long.x, .initialized "java/lang/Math", .code Lib.MathLoose.min_long.x Lib.MathLoose.min_long.code 4 (some .long), .methodLink RX0 73 yX0_begunRow, .static yX0_begunRow, .code yX0_begunRow cX0_begunRow 2 (some .int), .methodLink RX0 81 yX2_symbolOf, .instanceMethod yX2_symbolOf, .selects RX2 yX2_symbolOf yX2_symbolOf, .initialized RX2, .code yX2_symbolOf cX2_symbolOf 3 (some .int), .fieldLink RX2 18 "KindParser$Grammar" "symbols" "[I"] ++ wsX00 ++ wsX20)
def wsX0_choose : List Cond := .code yX0_choose cX0_choose 7 none :: ([.fieldLink RX0 25 "KindParser$Chart" "grammar" "LKindParser$Grammar;", .fieldLink RX0 19 "KindParser$Chart" "begun" "[J", .constantLong RX0 65 (1152921504606846976), .fieldLink RX0 11 "KindParser$Chart" "prices" "[J", .fieldLink RX0 15 "KindParser$Chart" "choices" "[B", .methodLink RX0 73 yX0_begunRow, .static yX0_begunRow, .initialized RX0, .code yX0_begunRow cX0_begunRow 2 (some .int), .methodLink RX0 55 yX0_spot, .static yX0_spot, .code yX0_spot cX0_spot 3 (some .int), .methodLink RX0 67 yX0_choiceSpot, .static yX0_choiceSpot, .code yX0_choiceSpot cX0_choiceSpot 3 (some .int)] ++ wsX00 ++ wsX20)
def wsX0_fill_r1 : List Cond := [Cond.fieldLink RX0 29 "KindParser$Chart" "cut" "LKindParser$Cut;", Cond.methodLink RX0 33 yX0_priceLeaves, Cond.instanceMethod yX0_priceLeaves, Cond.selects RX0 yX0_priceLeaves yX0_priceLeaves, Cond.initialized RX0, Cond.code yX0_priceLeaves cX0_priceLeaves 6 none, Cond.fieldLink RX0 11 "KindParser$Chart" "prices" "[J", Cond.constantLong RX0 59 (4294967296), Cond.methodLink RX0 55 yX0_spot, Cond.static yX0_spot, Cond.code yX0_spot cX0_spot 3 (some .int), Cond.methodLink RX0 61 yX1_signOf, Cond.instanceMethod yX1_signOf, Cond.selects RX1 yX1_signOf yX1_signOf, Cond.initialized RX1, Cond.code yX1_signOf cX1_signOf 2 (some .int), Cond.fieldLink RX1 38 "KindParser$Cut" "size" "I", Cond.fieldLink RX1 26 "KindParser$Cut" "signs" "[I", Cond.methodLink RX0 42 yX0_forget, Cond.instanceMethod yX0_forget, Cond.selects RX0 yX0_forget yX0_forget, Cond.code yX0_forget cX0_forget 4 none, Cond.constantLong RX0 65 (1152921504606846976), Cond.fieldLink RX0 15 "KindParser$Chart" "choices" "[B"]
def wsX0_fill_r2 : List Cond := [Cond.methodLink RX0 67 yX0_choiceSpot, Cond.static yX0_choiceSpot, Cond.code yX0_choiceSpot cX0_choiceSpot 3 (some .int), Cond.methodLink RX0 46 yX0_joinInside, Cond.instanceMethod yX0_joinInside, Cond.selects RX0 yX0_joinInside yX0_joinInside, Cond.code yX0_joinInside cX0_joinInside 6 none, Cond.fieldLink RX0 25 "KindParser$Chart" "grammar" "LKindParser$Grammar;", Cond.fieldLink RX0 19 "KindParser$Chart" "begun" "[J", Cond.methodLink RX0 73 yX0_begunRow, Cond.static yX0_begunRow, Cond.code yX0_begunRow cX0_begunRow 2 (some .int), Cond.methodLink RX0 81 yX2_symbolOf, Cond.instanceMethod yX2_symbolOf, Cond.selects RX2 yX2_symbolOf yX2_symbolOf, Cond.initialized RX2, Cond.code yX2_symbolOf cX2_symbolOf 3 (some .int), Cond.fieldLink RX2 18 "KindParser$Grammar" "symbols" "[I", Cond.methodLink RX0 84 yX0_leastInside, Cond.instanceMethod yX0_leastInside, Cond.selects RX0 yX0_leastInside yX0_leastInside, Cond.code yX0_leastInside cX0_leastInside 9 (some .long), Cond.methodLink RX0 88 Lib.MathLoose.min_long.x, Cond.static Lib.MathLoose.min_long.x]
def wsX0_fill_r3 : List Cond := [Cond.initialized "java/lang/Math", Cond.code Lib.MathLoose.min_long.x Lib.MathLoose.min_long.code 4 (some .long), Cond.methodLink RX0 49 yX0_settle, Cond.instanceMethod yX0_settle, Cond.selects RX0 yX0_settle yX0_settle, Cond.code yX0_settle cX0_settle 9 none, Cond.methodLink RX0 97 yX0_extend, Cond.instanceMethod yX0_extend, Cond.selects RX0 yX0_extend yX0_extend, Cond.code yX0_extend cX0_extend 11 (some .long), Cond.methodLink RX0 52 yX0_choose, Cond.instanceMethod yX0_choose, Cond.selects RX0 yX0_choose yX0_choose, Cond.code yX0_choose cX0_choose 7 none]
def wsX0_fill : List Cond := .code yX0_fill cX0_fill 3 none :: ((wsX0_fill_r1 ++ (wsX0_fill_r2 ++ wsX0_fill_r3)) ++ wsX00 ++ wsX10 ++ wsX20)
def wsX0_ruleFor : List Cond := .code yX0_ruleFor cX0_ruleFor 4 (some .int) :: ([.fieldLink RX0 15 "KindParser$Chart" "choices" "[B", .methodLink RX0 67 yX0_choiceSpot, .static yX0_choiceSpot, .initialized RX0, .code yX0_choiceSpot cX0_choiceSpot 3 (some .int)] ++ wsX00)
def wsX0_costOf : List Cond := .code yX0_costOf cX0_costOf 4 (some .int) :: ([.fieldLink RX0 11 "KindParser$Chart" "prices" "[J", .methodLink RX0 55 yX0_spot, .static yX0_spot, .initialized RX0, .code yX0_spot cX0_spot 3 (some .int)] ++ wsX00)
def wsX0_treeEnd : List Cond := .code yX0_treeEnd cX0_treeEnd 7 (some .int) :: ([.constantLong RX0 65 (1152921504606846976), .fieldLink RX0 29 "KindParser$Chart" "cut" "LKindParser$Cut;", .fieldLink RX0 11 "KindParser$Chart" "prices" "[J", .methodLink RX0 55 yX0_spot, .static yX0_spot, .initialized RX0, .code yX0_spot cX0_spot 3 (some .int)] ++ wsX00 ++ wsX10)
def wsX0_trace : List Cond := .code yX0_trace cX0_trace 11 none :: ([.fieldLink RX0 22 "KindParser$Chart" "traced" "[J", .constantLong RX0 65 (1152921504606846976), .fieldLink RX0 25 "KindParser$Chart" "grammar" "LKindParser$Grammar;", .fieldLink RX0 11 "KindParser$Chart" "prices" "[J", .methodLink RX0 88 Lib.MathLoose.min_long.x, .static Lib.MathLoose.min_long.x, .initialized "java/lang/Math", .code Lib.MathLoose.min_long.x Lib.MathLoose.min_long.code 4 (some .long), .methodLink RX0 81 yX2_symbolOf, .instanceMethod yX2_symbolOf, .selects RX2 yX2_symbolOf yX2_symbolOf, .initialized RX2, .code yX2_symbolOf cX2_symbolOf 3 (some .int), .fieldLink RX2 18 "KindParser$Grammar" "symbols" "[I", .methodLink RX0 55 yX0_spot, .static yX0_spot, .initialized RX0, .code yX0_spot cX0_spot 3 (some .int)] ++ wsX00 ++ wsX20)
def wsX0_split : List Cond := .code yX0_split cX0_split 12 none :: ([.fieldLink RX0 25 "KindParser$Chart" "grammar" "LKindParser$Grammar;", .fieldLink RX0 22 "KindParser$Chart" "traced" "[J", .fieldLink RX0 11 "KindParser$Chart" "prices" "[J", .methodLink RX0 101 yX0_trace, .instanceMethod yX0_trace, .selects RX0 yX0_trace yX0_trace, .initialized RX0, .code yX0_trace cX0_trace 11 none, .constantLong RX0 65 (1152921504606846976), .methodLink RX0 88 Lib.MathLoose.min_long.x, .static Lib.MathLoose.min_long.x, .initialized "java/lang/Math", .code Lib.MathLoose.min_long.x Lib.MathLoose.min_long.code 4 (some .long), .methodLink RX0 81 yX2_symbolOf, .instanceMethod yX2_symbolOf, .selects RX2 yX2_symbolOf yX2_symbolOf, .initialized RX2, .code yX2_symbolOf cX2_symbolOf 3 (some .int), .fieldLink RX2 18 "KindParser$Grammar" "symbols" "[I", .methodLink RX0 55 yX0_spot, .static yX0_spot, .code yX0_spot cX0_spot 3 (some .int)] ++ wsX00 ++ wsX20)
def wsX1_init : List Cond := .code yX1_init cX1_init 1 none :: ([.methodLink RX1 3 objectInit, .instanceMethod objectInit, .code objectInit ⟨#[0xb1]⟩ 1 none, .arrayClass .byte, .fieldLink RX1 9 "KindParser$Cut" "text" "[B", .fieldLink RX1 15 "KindParser$Cut" "length" "I", .arrayClass .int, .fieldLink RX1 19 "KindParser$Cut" "starts" "[I", .fieldLink RX1 23 "KindParser$Cut" "lengths" "[I", .fieldLink RX1 26 "KindParser$Cut" "signs" "[I", .fieldLink RX1 29 "KindParser$Cut" "firstComments" "[I", .fieldLink RX1 32 "KindParser$Cut" "commentStarts" "[I", .fieldLink RX1 35 "KindParser$Cut" "commentEnds" "[I", .fieldLink RX1 38 "KindParser$Cut" "size" "I", .fieldLink RX1 41 "KindParser$Cut" "comments" "I"] ++ wsX10)
def wsX1_closing : List Cond := .code yX1_closing cX1_closing 3 (some .int) :: ([.fieldLink RX1 15 "KindParser$Cut" "length" "I", .fieldLink RX1 9 "KindParser$Cut" "text" "[B"] ++ wsX10)
def wsX1_takeComment : List Cond := .code yX1_takeComment cX1_takeComment 3 (some .int) :: ([.fieldLink RX1 41 "KindParser$Cut" "comments" "I", .fieldLink RX1 32 "KindParser$Cut" "commentStarts" "[I", .fieldLink RX1 35 "KindParser$Cut" "commentEnds" "[I"] ++ wsX10)
def wsX5_isDigit : List Cond := .code yX5_isDigit cX5_isDigit 1 (some .boolean) :: ([])
def wsX1_behindDigits : List Cond := .code yX1_behindDigits cX1_behindDigits 3 (some .int) :: ([.fieldLink RX1 15 "KindParser$Cut" "length" "I", .fieldLink RX1 9 "KindParser$Cut" "text" "[B", .static yX5_isDigit, .initialized RX5, .code yX5_isDigit cX5_isDigit 1 (some .boolean)] ++ wsX10)
def wsX1_take_r1 : List Cond := [Cond.fieldLink RX1 9 "KindParser$Cut" "text" "[B", Cond.fieldLink RX1 38 "KindParser$Cut" "size" "I", Cond.fieldLink RX1 19 "KindParser$Cut" "starts" "[I", Cond.fieldLink RX1 23 "KindParser$Cut" "lengths" "[I", Cond.fieldLink RX1 26 "KindParser$Cut" "signs" "[I", Cond.fieldLink RX1 29 "KindParser$Cut" "firstComments" "[I", Cond.fieldLink RX1 41 "KindParser$Cut" "comments" "I", Cond.methodLink RX1 63 yX1_closing, Cond.instanceMethod yX1_closing, Cond.selects RX1 yX1_closing yX1_closing, Cond.initialized RX1, Cond.code yX1_closing cX1_closing 3 (some .int), Cond.fieldLink RX1 15 "KindParser$Cut" "length" "I", Cond.methodLink RX1 66 yX1_takeComment, Cond.instanceMethod yX1_takeComment, Cond.selects RX1 yX1_takeComment yX1_takeComment, Cond.code yX1_takeComment cX1_takeComment 3 (some .int), Cond.fieldLink RX1 32 "KindParser$Cut" "commentStarts" "[I", Cond.fieldLink RX1 35 "KindParser$Cut" "commentEnds" "[I", Cond.methodLink RX1 69 yX1_behindDigits, Cond.instanceMethod yX1_behindDigits, Cond.selects RX1 yX1_behindDigits yX1_behindDigits, Cond.code yX1_behindDigits cX1_behindDigits 3 (some .int), Cond.static yX5_isDigit]
def wsX1_take_r2 : List Cond := [Cond.initialized RX5, Cond.code yX5_isDigit cX5_isDigit 1 (some .boolean)]
def wsX1_take : List Cond := .code yX1_take cX1_take 6 (some .int) :: ((wsX1_take_r1 ++ wsX1_take_r2) ++ wsX10)
def wsX1_read_r1 : List Cond := [Cond.methodLink RX1 44 Lib.Math.min.name, Cond.static Lib.Math.min.name, Cond.initialized "java/lang/Math", Cond.code Lib.Math.min.name Lib.Math.min.code 2 (some .int), Cond.methodLink RX1 50 Lib.Math.max.name, Cond.static Lib.Math.max.name, Cond.code Lib.Math.max.name Lib.Math.max.code 2 (some .int), Cond.fieldLink RX1 15 "KindParser$Cut" "length" "I", Cond.fieldLink RX1 9 "KindParser$Cut" "text" "[B", Cond.methodLink RX1 53 arraycopyName, Cond.native arraycopyName, Cond.static arraycopyName, Cond.initialized "java/lang/System", Cond.fieldLink RX1 38 "KindParser$Cut" "size" "I", Cond.fieldLink RX1 41 "KindParser$Cut" "comments" "I", Cond.fieldLink RX1 29 "KindParser$Cut" "firstComments" "[I", Cond.methodLink RX1 59 yX1_take, Cond.instanceMethod yX1_take, Cond.selects RX1 yX1_take yX1_take, Cond.initialized RX1, Cond.code yX1_take cX1_take 6 (some .int), Cond.fieldLink RX1 19 "KindParser$Cut" "starts" "[I", Cond.fieldLink RX1 23 "KindParser$Cut" "lengths" "[I", Cond.fieldLink RX1 26 "KindParser$Cut" "signs" "[I"]
def wsX1_read_r2 : List Cond := [Cond.methodLink RX1 63 yX1_closing, Cond.instanceMethod yX1_closing, Cond.selects RX1 yX1_closing yX1_closing, Cond.code yX1_closing cX1_closing 3 (some .int), Cond.methodLink RX1 66 yX1_takeComment, Cond.instanceMethod yX1_takeComment, Cond.selects RX1 yX1_takeComment yX1_takeComment, Cond.code yX1_takeComment cX1_takeComment 3 (some .int), Cond.fieldLink RX1 32 "KindParser$Cut" "commentStarts" "[I", Cond.fieldLink RX1 35 "KindParser$Cut" "commentEnds" "[I", Cond.methodLink RX1 69 yX1_behindDigits, Cond.instanceMethod yX1_behindDigits, Cond.selects RX1 yX1_behindDigits yX1_behindDigits, Cond.code yX1_behindDigits cX1_behindDigits 3 (some .int), Cond.static yX5_isDigit, Cond.initialized RX5, Cond.code yX5_isDigit cX5_isDigit 1 (some .boolean)]
def wsX1_read : List Cond := .code yX1_read cX1_read 5 (some .boolean) :: ((wsX1_read_r1 ++ wsX1_read_r2) ++ wsX10)
def wsX1_lengthOf : List Cond := .code yX1_lengthOf cX1_lengthOf 2 (some .int) :: ([.fieldLink RX1 38 "KindParser$Cut" "size" "I", .fieldLink RX1 23 "KindParser$Cut" "lengths" "[I"] ++ wsX10)
def wsX1_commentsOf : List Cond := .code yX1_commentsOf cX1_commentsOf 2 (some .int) :: ([.fieldLink RX1 38 "KindParser$Cut" "size" "I", .fieldLink RX1 29 "KindParser$Cut" "firstComments" "[I"] ++ wsX10)
def wsX1_beginsWithDigit : List Cond := .code yX1_beginsWithDigit cX1_beginsWithDigit 2 (some .boolean) :: ([.fieldLink RX1 38 "KindParser$Cut" "size" "I", .fieldLink RX1 9 "KindParser$Cut" "text" "[B", .fieldLink RX1 19 "KindParser$Cut" "starts" "[I", .methodLink RX1 76 yX1_commentsOf, .instanceMethod yX1_commentsOf, .selects RX1 yX1_commentsOf yX1_commentsOf, .initialized RX1, .code yX1_commentsOf cX1_commentsOf 2 (some .int), .fieldLink RX1 29 "KindParser$Cut" "firstComments" "[I", .static yX5_isDigit, .initialized RX5, .code yX5_isDigit cX5_isDigit 1 (some .boolean)] ++ wsX10)
def wsX1_widthOf : List Cond := .code yX1_widthOf cX1_widthOf 5 (some .int) :: ([.fieldLink RX1 29 "KindParser$Cut" "firstComments" "[I", .fieldLink RX1 35 "KindParser$Cut" "commentEnds" "[I", .fieldLink RX1 32 "KindParser$Cut" "commentStarts" "[I", .methodLink RX1 79 yX1_lengthOf, .instanceMethod yX1_lengthOf, .selects RX1 yX1_lengthOf yX1_lengthOf, .initialized RX1, .code yX1_lengthOf cX1_lengthOf 2 (some .int), .fieldLink RX1 38 "KindParser$Cut" "size" "I", .fieldLink RX1 23 "KindParser$Cut" "lengths" "[I", .methodLink RX1 76 yX1_commentsOf, .instanceMethod yX1_commentsOf, .selects RX1 yX1_commentsOf yX1_commentsOf, .code yX1_commentsOf cX1_commentsOf 2 (some .int)] ++ wsX10)
def wsX2_init : List Cond := .code yX2_init cX2_init 1 none :: ([.methodLink RX2 3 objectInit, .instanceMethod objectInit, .code objectInit ⟨#[0xb1]⟩ 1 none, .arrayClass .int, .fieldLink RX2 9 "KindParser$Grammar" "heads" "[I", .fieldLink RX2 15 "KindParser$Grammar" "lengths" "[I", .fieldLink RX2 18 "KindParser$Grammar" "symbols" "[I", .fieldLink RX2 21 "KindParser$Grammar" "hints" "[I", .arrayClass .boolean, .fieldLink RX2 24 "KindParser$Grammar" "ins" "[Z", .fieldLink RX2 28 "KindParser$Grammar" "ground" "[Z", .fieldLink RX2 31 "KindParser$Grammar" "size" "I"] ++ wsX20)
def wsX2_symbolsIn : List Cond := .code yX2_symbolsIn cX2_symbolsIn 5 (some .int) :: ([.constant RX2 35 (1048576)])
def wsX2_hintsFit : List Cond := .code yX2_hintsFit cX2_hintsFit 4 (some .boolean) :: ([])
def wsX5_isKind : List Cond := .code yX5_isKind cX5_isKind 1 (some .boolean) :: ([])
def wsX2_hasGround : List Cond := .code yX2_hasGround cX2_hasGround 2 (some .boolean) :: ([.fieldLink RX2 28 "KindParser$Grammar" "ground" "[Z", .static yX5_isKind, .initialized RX5, .code yX5_isKind cX5_isKind 1 (some .boolean)] ++ wsX20)
def wsX2_standsOnGround : List Cond := .code yX2_standsOnGround cX2_standsOnGround 4 (some .boolean) :: ([.fieldLink RX2 15 "KindParser$Grammar" "lengths" "[I", .methodLink RX2 53 yX2_symbolOf, .instanceMethod yX2_symbolOf, .selects RX2 yX2_symbolOf yX2_symbolOf, .initialized RX2, .code yX2_symbolOf cX2_symbolOf 3 (some .int), .fieldLink RX2 18 "KindParser$Grammar" "symbols" "[I", .static yX5_isKind, .initialized RX5, .code yX5_isKind cX5_isKind 1 (some .boolean), .methodLink RX2 47 yX2_hasGround, .instanceMethod yX2_hasGround, .selects RX2 yX2_hasGround yX2_hasGround, .code yX2_hasGround cX2_hasGround 2 (some .boolean), .fieldLink RX2 28 "KindParser$Grammar" "ground" "[Z"] ++ wsX20)
def wsX2_findGround : List Cond := .code yX2_findGround cX2_findGround 4 none :: ([.fieldLink RX2 31 "KindParser$Grammar" "size" "I", .fieldLink RX2 9 "KindParser$Grammar" "heads" "[I", .fieldLink RX2 28 "KindParser$Grammar" "ground" "[Z", .methodLink RX2 47 yX2_hasGround, .instanceMethod yX2_hasGround, .selects RX2 yX2_hasGround yX2_hasGround, .initialized RX2, .code yX2_hasGround cX2_hasGround 2 (some .boolean), .static yX5_isKind, .initialized RX5, .code yX5_isKind cX5_isKind 1 (some .boolean), .methodLink RX2 50 yX2_standsOnGround, .instanceMethod yX2_standsOnGround, .selects RX2 yX2_standsOnGround yX2_standsOnGround, .code yX2_standsOnGround cX2_standsOnGround 4 (some .boolean), .fieldLink RX2 15 "KindParser$Grammar" "lengths" "[I", .methodLink RX2 53 yX2_symbolOf, .instanceMethod yX2_symbolOf, .selects RX2 yX2_symbolOf yX2_symbolOf, .code yX2_symbolOf cX2_symbolOf 3 (some .int), .fieldLink RX2 18 "KindParser$Grammar" "symbols" "[I"] ++ wsX20)
def wsX2_add_r1 : List Cond := [Cond.fieldLink RX2 31 "KindParser$Grammar" "size" "I", Cond.fieldLink RX2 9 "KindParser$Grammar" "heads" "[I", Cond.fieldLink RX2 15 "KindParser$Grammar" "lengths" "[I", Cond.fieldLink RX2 24 "KindParser$Grammar" "ins" "[Z", Cond.fieldLink RX2 18 "KindParser$Grammar" "symbols" "[I", Cond.fieldLink RX2 21 "KindParser$Grammar" "hints" "[I", Cond.methodLink RX2 36 yX2_symbolsIn, Cond.static yX2_symbolsIn, Cond.initialized RX2, Cond.code yX2_symbolsIn cX2_symbolsIn 5 (some .int), Cond.constant RX2 35 (1048576), Cond.methodLink RX2 40 yX2_findGround, Cond.instanceMethod yX2_findGround, Cond.selects RX2 yX2_findGround yX2_findGround, Cond.code yX2_findGround cX2_findGround 4 none, Cond.fieldLink RX2 28 "KindParser$Grammar" "ground" "[Z", Cond.methodLink RX2 47 yX2_hasGround, Cond.instanceMethod yX2_hasGround, Cond.selects RX2 yX2_hasGround yX2_hasGround, Cond.code yX2_hasGround cX2_hasGround 2 (some .boolean), Cond.static yX5_isKind, Cond.initialized RX5, Cond.code yX5_isKind cX5_isKind 1 (some .boolean), Cond.methodLink RX2 50 yX2_standsOnGround]
def wsX2_add_r2 : List Cond := [Cond.instanceMethod yX2_standsOnGround, Cond.selects RX2 yX2_standsOnGround yX2_standsOnGround, Cond.code yX2_standsOnGround cX2_standsOnGround 4 (some .boolean), Cond.methodLink RX2 53 yX2_symbolOf, Cond.instanceMethod yX2_symbolOf, Cond.selects RX2 yX2_symbolOf yX2_symbolOf, Cond.code yX2_symbolOf cX2_symbolOf 3 (some .int)]
def wsX2_add : List Cond := .code yX2_add cX2_add 9 (some .int) :: ((wsX2_add_r1 ++ wsX2_add_r2) ++ wsX20)
def wsX2_hintOf : List Cond := .code yX2_hintOf cX2_hintOf 3 (some .int) :: ([.fieldLink RX2 21 "KindParser$Grammar" "hints" "[I"] ++ wsX20)
def wsX3_init : List Cond := .code yX3_init cX3_init 4 none :: ([.methodLink RX3 3 objectInit, .instanceMethod objectInit, .code objectInit ⟨#[0xb1]⟩ 1 none, .arrayClass .byte, .fieldLink RX3 11 "KindParser$Page" "sheet" "[B", .arrayClass .int, .fieldLink RX3 15 "KindParser$Page" "flats" "[I", .arrayClass .boolean, .fieldLink RX3 19 "KindParser$Page" "broken" "[Z", .fieldLink RX3 23 "KindParser$Page" "indents" "[I", .fieldLink RX3 26 "KindParser$Page" "size" "I", .fieldLink RX3 30 "KindParser$Page" "column" "I", .fieldLink RX3 33 "KindParser$Page" "grammar" "LKindParser$Grammar;", .fieldLink RX3 37 "KindParser$Page" "cut" "LKindParser$Cut;", .fieldLink RX3 41 "KindParser$Page" "tree" "LKindParser$Tree;"] ++ wsX30)
def wsX3_at : List Cond := .code yX3_at cX3_at 2 (some .int) :: ([.fieldLink RX3 26 "KindParser$Page" "size" "I", .fieldLink RX3 11 "KindParser$Page" "sheet" "[B"] ++ wsX30)
def wsX4_cell : List Cond := .code yX4_cell cX4_cell 3 (some .int) :: ([.fieldLink RX4 11 "KindParser$Tree" "cells" "[I"] ++ wsX40)
def wsX4_isLeaf : List Cond := .code yX4_isLeaf cX4_isLeaf 2 (some .boolean) :: ([.methodLink RX4 57 yX4_cell, .instanceMethod yX4_cell, .selects RX4 yX4_cell yX4_cell, .initialized RX4, .code yX4_cell cX4_cell 3 (some .int), .fieldLink RX4 11 "KindParser$Tree" "cells" "[I"] ++ wsX40)
def wsX3_leafWidth_r1 : List Cond := [Cond.fieldLink RX3 41 "KindParser$Page" "tree" "LKindParser$Tree;", Cond.methodLink RX3 76 Lib.Math.max.name, Cond.static Lib.Math.max.name, Cond.initialized "java/lang/Math", Cond.code Lib.Math.max.name Lib.Math.max.code 2 (some .int), Cond.fieldLink RX3 37 "KindParser$Page" "cut" "LKindParser$Cut;", Cond.methodLink RX3 51 yX4_cell, Cond.instanceMethod yX4_cell, Cond.selects RX4 yX4_cell yX4_cell, Cond.initialized RX4, Cond.code yX4_cell cX4_cell 3 (some .int), Cond.fieldLink RX4 11 "KindParser$Tree" "cells" "[I", Cond.methodLink RX3 81 yX1_widthOf, Cond.instanceMethod yX1_widthOf, Cond.selects RX1 yX1_widthOf yX1_widthOf, Cond.initialized RX1, Cond.code yX1_widthOf cX1_widthOf 5 (some .int), Cond.fieldLink RX1 29 "KindParser$Cut" "firstComments" "[I", Cond.fieldLink RX1 35 "KindParser$Cut" "commentEnds" "[I", Cond.fieldLink RX1 32 "KindParser$Cut" "commentStarts" "[I", Cond.methodLink RX1 79 yX1_lengthOf, Cond.instanceMethod yX1_lengthOf, Cond.selects RX1 yX1_lengthOf yX1_lengthOf, Cond.code yX1_lengthOf cX1_lengthOf 2 (some .int)]
def wsX3_leafWidth_r2 : List Cond := [Cond.fieldLink RX1 38 "KindParser$Cut" "size" "I", Cond.fieldLink RX1 23 "KindParser$Cut" "lengths" "[I", Cond.methodLink RX1 76 yX1_commentsOf, Cond.instanceMethod yX1_commentsOf, Cond.selects RX1 yX1_commentsOf yX1_commentsOf, Cond.code yX1_commentsOf cX1_commentsOf 2 (some .int)]
def wsX3_leafWidth : List Cond := .code yX3_leafWidth cX3_leafWidth 6 (some .int) :: ((wsX3_leafWidth_r1 ++ wsX3_leafWidth_r2) ++ wsX30 ++ wsX40 ++ wsX10)
def wsX3_hasGap : List Cond := .code yX3_hasGap cX3_hasGap 3 (some .boolean) :: ([.fieldLink RX3 41 "KindParser$Page" "tree" "LKindParser$Tree;", .methodLink RX3 51 yX4_cell, .instanceMethod yX4_cell, .selects RX4 yX4_cell yX4_cell, .initialized RX4, .code yX4_cell cX4_cell 3 (some .int), .fieldLink RX4 11 "KindParser$Tree" "cells" "[I"] ++ wsX30 ++ wsX40)
def wsX3_flatGap : List Cond := .code yX3_flatGap cX3_flatGap 3 (some .int) :: ([.fieldLink RX3 41 "KindParser$Page" "tree" "LKindParser$Tree;", .fieldLink RX3 37 "KindParser$Page" "cut" "LKindParser$Cut;", .methodLink RX3 51 yX4_cell, .instanceMethod yX4_cell, .selects RX4 yX4_cell yX4_cell, .initialized RX4, .code yX4_cell cX4_cell 3 (some .int), .fieldLink RX4 11 "KindParser$Tree" "cells" "[I", .methodLink RX3 89 yX1_beginsWithDigit, .instanceMethod yX1_beginsWithDigit, .selects RX1 yX1_beginsWithDigit yX1_beginsWithDigit, .initialized RX1, .code yX1_beginsWithDigit cX1_beginsWithDigit 2 (some .boolean), .fieldLink RX1 38 "KindParser$Cut" "size" "I", .fieldLink RX1 9 "KindParser$Cut" "text" "[B", .fieldLink RX1 19 "KindParser$Cut" "starts" "[I", .methodLink RX1 76 yX1_commentsOf, .instanceMethod yX1_commentsOf, .selects RX1 yX1_commentsOf yX1_commentsOf, .code yX1_commentsOf cX1_commentsOf 2 (some .int), .fieldLink RX1 29 "KindParser$Cut" "firstComments" "[I", .static yX5_isDigit, .initialized RX5, .code yX5_isDigit cX5_isDigit 1 (some .boolean)] ++ wsX30 ++ wsX40 ++ wsX10)
def wsX3_measure_r1 : List Cond := [Cond.fieldLink RX3 41 "KindParser$Page" "tree" "LKindParser$Tree;", Cond.fieldLink RX3 15 "KindParser$Page" "flats" "[I", Cond.methodLink RX3 62 yX4_isLeaf, Cond.instanceMethod yX4_isLeaf, Cond.selects RX4 yX4_isLeaf yX4_isLeaf, Cond.initialized RX4, Cond.code yX4_isLeaf cX4_isLeaf 2 (some .boolean), Cond.methodLink RX4 57 yX4_cell, Cond.instanceMethod yX4_cell, Cond.selects RX4 yX4_cell yX4_cell, Cond.code yX4_cell cX4_cell 3 (some .int), Cond.fieldLink RX4 11 "KindParser$Tree" "cells" "[I", Cond.methodLink RX3 66 yX3_leafWidth, Cond.instanceMethod yX3_leafWidth, Cond.selects RX3 yX3_leafWidth yX3_leafWidth, Cond.initialized RX3, Cond.code yX3_leafWidth cX3_leafWidth 6 (some .int), Cond.methodLink RX3 76 Lib.Math.max.name, Cond.static Lib.Math.max.name, Cond.initialized "java/lang/Math", Cond.code Lib.Math.max.name Lib.Math.max.code 2 (some .int), Cond.fieldLink RX3 37 "KindParser$Page" "cut" "LKindParser$Cut;", Cond.methodLink RX3 51 yX4_cell, Cond.methodLink RX3 81 yX1_widthOf]
def wsX3_measure_r2 : List Cond := [Cond.instanceMethod yX1_widthOf, Cond.selects RX1 yX1_widthOf yX1_widthOf, Cond.initialized RX1, Cond.code yX1_widthOf cX1_widthOf 5 (some .int), Cond.fieldLink RX1 29 "KindParser$Cut" "firstComments" "[I", Cond.fieldLink RX1 35 "KindParser$Cut" "commentEnds" "[I", Cond.fieldLink RX1 32 "KindParser$Cut" "commentStarts" "[I", Cond.methodLink RX1 79 yX1_lengthOf, Cond.instanceMethod yX1_lengthOf, Cond.selects RX1 yX1_lengthOf yX1_lengthOf, Cond.code yX1_lengthOf cX1_lengthOf 2 (some .int), Cond.fieldLink RX1 38 "KindParser$Cut" "size" "I", Cond.fieldLink RX1 23 "KindParser$Cut" "lengths" "[I", Cond.methodLink RX1 76 yX1_commentsOf, Cond.instanceMethod yX1_commentsOf, Cond.selects RX1 yX1_commentsOf yX1_commentsOf, Cond.code yX1_commentsOf cX1_commentsOf 2 (some .int), Cond.methodLink RX3 70 yX3_hasGap, Cond.instanceMethod yX3_hasGap, Cond.selects RX3 yX3_hasGap yX3_hasGap, Cond.code yX3_hasGap cX3_hasGap 3 (some .boolean), Cond.methodLink RX3 73 yX3_flatGap, Cond.instanceMethod yX3_flatGap, Cond.selects RX3 yX3_flatGap yX3_flatGap]
def wsX3_measure_r3 : List Cond := [Cond.code yX3_flatGap cX3_flatGap 3 (some .int), Cond.methodLink RX3 89 yX1_beginsWithDigit, Cond.instanceMethod yX1_beginsWithDigit, Cond.selects RX1 yX1_beginsWithDigit yX1_beginsWithDigit, Cond.code yX1_beginsWithDigit cX1_beginsWithDigit 2 (some .boolean), Cond.fieldLink RX1 9 "KindParser$Cut" "text" "[B", Cond.fieldLink RX1 19 "KindParser$Cut" "starts" "[I", Cond.static yX5_isDigit, Cond.initialized RX5, Cond.code yX5_isDigit cX5_isDigit 1 (some .boolean)]
def wsX3_measure : List Cond := .code yX3_measure cX3_measure 3 none :: ((wsX3_measure_r1 ++ (wsX3_measure_r2 ++ wsX3_measure_r3)) ++ wsX30 ++ wsX40 ++ wsX10)
def wsX3_put : List Cond := .code yX3_put cX3_put 2 none :: ([.fieldLink RX3 26 "KindParser$Page" "size" "I", .fieldLink RX3 11 "KindParser$Page" "sheet" "[B", .fieldLink RX3 30 "KindParser$Page" "column" "I"] ++ wsX30)
def wsX3_layGap_r1 : List Cond := [Cond.fieldLink RX3 41 "KindParser$Page" "tree" "LKindParser$Tree;", Cond.fieldLink RX3 19 "KindParser$Page" "broken" "[Z", Cond.fieldLink RX3 30 "KindParser$Page" "column" "I", Cond.fieldLink RX3 23 "KindParser$Page" "indents" "[I", Cond.methodLink RX3 103 yX3_put, Cond.instanceMethod yX3_put, Cond.selects RX3 yX3_put yX3_put, Cond.initialized RX3, Cond.code yX3_put cX3_put 2 none, Cond.fieldLink RX3 26 "KindParser$Page" "size" "I", Cond.fieldLink RX3 11 "KindParser$Page" "sheet" "[B", Cond.methodLink RX3 73 yX3_flatGap, Cond.instanceMethod yX3_flatGap, Cond.selects RX3 yX3_flatGap yX3_flatGap, Cond.code yX3_flatGap cX3_flatGap 3 (some .int), Cond.fieldLink RX3 37 "KindParser$Page" "cut" "LKindParser$Cut;", Cond.methodLink RX3 51 yX4_cell, Cond.instanceMethod yX4_cell, Cond.selects RX4 yX4_cell yX4_cell, Cond.initialized RX4, Cond.code yX4_cell cX4_cell 3 (some .int), Cond.fieldLink RX4 11 "KindParser$Tree" "cells" "[I", Cond.methodLink RX3 89 yX1_beginsWithDigit, Cond.instanceMethod yX1_beginsWithDigit]
def wsX3_layGap_r2 : List Cond := [Cond.selects RX1 yX1_beginsWithDigit yX1_beginsWithDigit, Cond.initialized RX1, Cond.code yX1_beginsWithDigit cX1_beginsWithDigit 2 (some .boolean), Cond.fieldLink RX1 38 "KindParser$Cut" "size" "I", Cond.fieldLink RX1 9 "KindParser$Cut" "text" "[B", Cond.fieldLink RX1 19 "KindParser$Cut" "starts" "[I", Cond.methodLink RX1 76 yX1_commentsOf, Cond.instanceMethod yX1_commentsOf, Cond.selects RX1 yX1_commentsOf yX1_commentsOf, Cond.code yX1_commentsOf cX1_commentsOf 2 (some .int), Cond.fieldLink RX1 29 "KindParser$Cut" "firstComments" "[I", Cond.static yX5_isDigit, Cond.initialized RX5, Cond.code yX5_isDigit cX5_isDigit 1 (some .boolean)]
def wsX3_layGap : List Cond := .code yX3_layGap cX3_layGap 4 none :: ((wsX3_layGap_r1 ++ wsX3_layGap_r2) ++ wsX30 ++ wsX40 ++ wsX10)
def wsX3_layText : List Cond := .code yX3_layText cX3_layText 4 none :: ([.fieldLink RX3 37 "KindParser$Page" "cut" "LKindParser$Cut;", .methodLink RX3 103 yX3_put, .instanceMethod yX3_put, .selects RX3 yX3_put yX3_put, .initialized RX3, .code yX3_put cX3_put 2 none, .fieldLink RX3 26 "KindParser$Page" "size" "I", .fieldLink RX3 11 "KindParser$Page" "sheet" "[B", .fieldLink RX3 30 "KindParser$Page" "column" "I"] ++ wsX30 ++ wsX10)
def wsX3_layComments : List Cond := .code yX3_layComments cX3_layComments 4 none :: ([.fieldLink RX3 37 "KindParser$Page" "cut" "LKindParser$Cut;", .methodLink RX3 110 yX1_commentsOf, .instanceMethod yX1_commentsOf, .selects RX1 yX1_commentsOf yX1_commentsOf, .initialized RX1, .code yX1_commentsOf cX1_commentsOf 2 (some .int), .fieldLink RX1 38 "KindParser$Cut" "size" "I", .fieldLink RX1 29 "KindParser$Cut" "firstComments" "[I", .methodLink RX3 103 yX3_put, .instanceMethod yX3_put, .selects RX3 yX3_put yX3_put, .initialized RX3, .code yX3_put cX3_put 2 none, .fieldLink RX3 26 "KindParser$Page" "size" "I", .fieldLink RX3 11 "KindParser$Page" "sheet" "[B", .fieldLink RX3 30 "KindParser$Page" "column" "I", .methodLink RX3 119 yX3_layText, .instanceMethod yX3_layText, .selects RX3 yX3_layText yX3_layText, .code yX3_layText cX3_layText 4 none] ++ wsX30 ++ wsX10)
def wsX3_layTokens : List Cond := .code yX3_layTokens cX3_layTokens 4 none :: ([.fieldLink RX3 37 "KindParser$Page" "cut" "LKindParser$Cut;", .methodLink RX3 103 yX3_put, .instanceMethod yX3_put, .selects RX3 yX3_put yX3_put, .initialized RX3, .code yX3_put cX3_put 2 none, .fieldLink RX3 26 "KindParser$Page" "size" "I", .fieldLink RX3 11 "KindParser$Page" "sheet" "[B", .fieldLink RX3 30 "KindParser$Page" "column" "I", .methodLink RX3 107 yX3_layComments, .instanceMethod yX3_layComments, .selects RX3 yX3_layComments yX3_layComments, .code yX3_layComments cX3_layComments 4 none, .methodLink RX3 110 yX1_commentsOf, .instanceMethod yX1_commentsOf, .selects RX1 yX1_commentsOf yX1_commentsOf, .initialized RX1, .code yX1_commentsOf cX1_commentsOf 2 (some .int), .fieldLink RX1 38 "KindParser$Cut" "size" "I", .fieldLink RX1 29 "KindParser$Cut" "firstComments" "[I", .methodLink RX3 119 yX3_layText, .instanceMethod yX3_layText, .selects RX3 yX3_layText yX3_layText, .code yX3_layText cX3_layText 4 none] ++ wsX30 ++ wsX10)
def wsX3_layPart_r1 : List Cond := [Cond.fieldLink RX3 41 "KindParser$Page" "tree" "LKindParser$Tree;", Cond.fieldLink RX3 19 "KindParser$Page" "broken" "[Z", Cond.fieldLink RX3 15 "KindParser$Page" "flats" "[I", Cond.fieldLink RX3 30 "KindParser$Page" "column" "I", Cond.fieldLink RX3 23 "KindParser$Page" "indents" "[I", Cond.fieldLink RX3 33 "KindParser$Page" "grammar" "LKindParser$Grammar;", Cond.methodLink RX3 51 yX4_cell, Cond.instanceMethod yX4_cell, Cond.selects RX4 yX4_cell yX4_cell, Cond.initialized RX4, Cond.code yX4_cell cX4_cell 3 (some .int), Cond.fieldLink RX4 11 "KindParser$Tree" "cells" "[I", Cond.methodLink RX3 70 yX3_hasGap, Cond.instanceMethod yX3_hasGap, Cond.selects RX3 yX3_hasGap yX3_hasGap, Cond.initialized RX3, Cond.code yX3_hasGap cX3_hasGap 3 (some .boolean), Cond.methodLink RX3 92 yX3_layGap, Cond.instanceMethod yX3_layGap, Cond.selects RX3 yX3_layGap yX3_layGap, Cond.code yX3_layGap cX3_layGap 4 none, Cond.methodLink RX3 103 yX3_put, Cond.instanceMethod yX3_put, Cond.selects RX3 yX3_put yX3_put]
def wsX3_layPart_r2 : List Cond := [Cond.code yX3_put cX3_put 2 none, Cond.fieldLink RX3 26 "KindParser$Page" "size" "I", Cond.fieldLink RX3 11 "KindParser$Page" "sheet" "[B", Cond.methodLink RX3 73 yX3_flatGap, Cond.instanceMethod yX3_flatGap, Cond.selects RX3 yX3_flatGap yX3_flatGap, Cond.code yX3_flatGap cX3_flatGap 3 (some .int), Cond.fieldLink RX3 37 "KindParser$Page" "cut" "LKindParser$Cut;", Cond.methodLink RX3 89 yX1_beginsWithDigit, Cond.instanceMethod yX1_beginsWithDigit, Cond.selects RX1 yX1_beginsWithDigit yX1_beginsWithDigit, Cond.initialized RX1, Cond.code yX1_beginsWithDigit cX1_beginsWithDigit 2 (some .boolean), Cond.fieldLink RX1 38 "KindParser$Cut" "size" "I", Cond.fieldLink RX1 9 "KindParser$Cut" "text" "[B", Cond.fieldLink RX1 19 "KindParser$Cut" "starts" "[I", Cond.methodLink RX1 76 yX1_commentsOf, Cond.instanceMethod yX1_commentsOf, Cond.selects RX1 yX1_commentsOf yX1_commentsOf, Cond.code yX1_commentsOf cX1_commentsOf 2 (some .int), Cond.fieldLink RX1 29 "KindParser$Cut" "firstComments" "[I", Cond.static yX5_isDigit, Cond.initialized RX5, Cond.code yX5_isDigit cX5_isDigit 1 (some .boolean)]
def wsX3_layPart_r3 : List Cond := [Cond.methodLink RX3 62 yX4_isLeaf, Cond.instanceMethod yX4_isLeaf, Cond.selects RX4 yX4_isLeaf yX4_isLeaf, Cond.code yX4_isLeaf cX4_isLeaf 2 (some .boolean), Cond.methodLink RX4 57 yX4_cell, Cond.methodLink RX3 95 yX3_layTokens, Cond.instanceMethod yX3_layTokens, Cond.selects RX3 yX3_layTokens yX3_layTokens, Cond.code yX3_layTokens cX3_layTokens 4 none, Cond.methodLink RX3 107 yX3_layComments, Cond.instanceMethod yX3_layComments, Cond.selects RX3 yX3_layComments yX3_layComments, Cond.code yX3_layComments cX3_layComments 4 none, Cond.methodLink RX3 110 yX1_commentsOf, Cond.methodLink RX3 119 yX3_layText, Cond.instanceMethod yX3_layText, Cond.selects RX3 yX3_layText yX3_layText, Cond.code yX3_layText cX3_layText 4 none]
def wsX3_layPart : List Cond := .code yX3_layPart cX3_layPart 5 none :: ((wsX3_layPart_r1 ++ (wsX3_layPart_r2 ++ wsX3_layPart_r3)) ++ wsX30 ++ wsX20 ++ wsX40 ++ wsX10)
def wsX3_layEnd_r1 : List Cond := [Cond.fieldLink RX3 37 "KindParser$Page" "cut" "LKindParser$Cut;", Cond.fieldLink RX3 41 "KindParser$Page" "tree" "LKindParser$Tree;", Cond.fieldLink RX3 26 "KindParser$Page" "size" "I", Cond.methodLink RX3 110 yX1_commentsOf, Cond.instanceMethod yX1_commentsOf, Cond.selects RX1 yX1_commentsOf yX1_commentsOf, Cond.initialized RX1, Cond.code yX1_commentsOf cX1_commentsOf 2 (some .int), Cond.fieldLink RX1 38 "KindParser$Cut" "size" "I", Cond.fieldLink RX1 29 "KindParser$Cut" "firstComments" "[I", Cond.methodLink RX3 103 yX3_put, Cond.instanceMethod yX3_put, Cond.selects RX3 yX3_put yX3_put, Cond.initialized RX3, Cond.code yX3_put cX3_put 2 none, Cond.fieldLink RX3 11 "KindParser$Page" "sheet" "[B", Cond.fieldLink RX3 30 "KindParser$Page" "column" "I", Cond.methodLink RX3 95 yX3_layTokens, Cond.instanceMethod yX3_layTokens, Cond.selects RX3 yX3_layTokens yX3_layTokens, Cond.code yX3_layTokens cX3_layTokens 4 none, Cond.methodLink RX3 107 yX3_layComments, Cond.instanceMethod yX3_layComments, Cond.selects RX3 yX3_layComments yX3_layComments]
def wsX3_layEnd_r2 : List Cond := [Cond.code yX3_layComments cX3_layComments 4 none, Cond.methodLink RX3 119 yX3_layText, Cond.instanceMethod yX3_layText, Cond.selects RX3 yX3_layText yX3_layText, Cond.code yX3_layText cX3_layText 4 none]
def wsX3_layEnd : List Cond := .code yX3_layEnd cX3_layEnd 2 none :: ((wsX3_layEnd_r1 ++ wsX3_layEnd_r2) ++ wsX30 ++ wsX10 ++ wsX40)
def wsX3_layOut_r1 : List Cond := [Cond.fieldLink RX3 26 "KindParser$Page" "size" "I", Cond.fieldLink RX3 30 "KindParser$Page" "column" "I", Cond.fieldLink RX3 41 "KindParser$Page" "tree" "LKindParser$Tree;", Cond.methodLink RX3 45 yX3_measure, Cond.instanceMethod yX3_measure, Cond.selects RX3 yX3_measure yX3_measure, Cond.initialized RX3, Cond.code yX3_measure cX3_measure 3 none, Cond.fieldLink RX3 15 "KindParser$Page" "flats" "[I", Cond.methodLink RX3 62 yX4_isLeaf, Cond.instanceMethod yX4_isLeaf, Cond.selects RX4 yX4_isLeaf yX4_isLeaf, Cond.initialized RX4, Cond.code yX4_isLeaf cX4_isLeaf 2 (some .boolean), Cond.methodLink RX4 57 yX4_cell, Cond.instanceMethod yX4_cell, Cond.selects RX4 yX4_cell yX4_cell, Cond.code yX4_cell cX4_cell 3 (some .int), Cond.fieldLink RX4 11 "KindParser$Tree" "cells" "[I", Cond.methodLink RX3 66 yX3_leafWidth, Cond.instanceMethod yX3_leafWidth, Cond.selects RX3 yX3_leafWidth yX3_leafWidth, Cond.code yX3_leafWidth cX3_leafWidth 6 (some .int), Cond.methodLink RX3 76 Lib.Math.max.name]
def wsX3_layOut_r2 : List Cond := [Cond.static Lib.Math.max.name, Cond.initialized "java/lang/Math", Cond.code Lib.Math.max.name Lib.Math.max.code 2 (some .int), Cond.fieldLink RX3 37 "KindParser$Page" "cut" "LKindParser$Cut;", Cond.methodLink RX3 51 yX4_cell, Cond.methodLink RX3 81 yX1_widthOf, Cond.instanceMethod yX1_widthOf, Cond.selects RX1 yX1_widthOf yX1_widthOf, Cond.initialized RX1, Cond.code yX1_widthOf cX1_widthOf 5 (some .int), Cond.fieldLink RX1 29 "KindParser$Cut" "firstComments" "[I", Cond.fieldLink RX1 35 "KindParser$Cut" "commentEnds" "[I", Cond.fieldLink RX1 32 "KindParser$Cut" "commentStarts" "[I", Cond.methodLink RX1 79 yX1_lengthOf, Cond.instanceMethod yX1_lengthOf, Cond.selects RX1 yX1_lengthOf yX1_lengthOf, Cond.code yX1_lengthOf cX1_lengthOf 2 (some .int), Cond.fieldLink RX1 38 "KindParser$Cut" "size" "I", Cond.fieldLink RX1 23 "KindParser$Cut" "lengths" "[I", Cond.methodLink RX1 76 yX1_commentsOf, Cond.instanceMethod yX1_commentsOf, Cond.selects RX1 yX1_commentsOf yX1_commentsOf, Cond.code yX1_commentsOf cX1_commentsOf 2 (some .int), Cond.methodLink RX3 70 yX3_hasGap]
def wsX3_layOut_r3 : List Cond := [Cond.instanceMethod yX3_hasGap, Cond.selects RX3 yX3_hasGap yX3_hasGap, Cond.code yX3_hasGap cX3_hasGap 3 (some .boolean), Cond.methodLink RX3 73 yX3_flatGap, Cond.instanceMethod yX3_flatGap, Cond.selects RX3 yX3_flatGap yX3_flatGap, Cond.code yX3_flatGap cX3_flatGap 3 (some .int), Cond.methodLink RX3 89 yX1_beginsWithDigit, Cond.instanceMethod yX1_beginsWithDigit, Cond.selects RX1 yX1_beginsWithDigit yX1_beginsWithDigit, Cond.code yX1_beginsWithDigit cX1_beginsWithDigit 2 (some .boolean), Cond.fieldLink RX1 9 "KindParser$Cut" "text" "[B", Cond.fieldLink RX1 19 "KindParser$Cut" "starts" "[I", Cond.static yX5_isDigit, Cond.initialized RX5, Cond.code yX5_isDigit cX5_isDigit 1 (some .boolean), Cond.methodLink RX3 55 yX3_layPart, Cond.instanceMethod yX3_layPart, Cond.selects RX3 yX3_layPart yX3_layPart, Cond.code yX3_layPart cX3_layPart 5 none, Cond.fieldLink RX3 19 "KindParser$Page" "broken" "[Z", Cond.fieldLink RX3 23 "KindParser$Page" "indents" "[I", Cond.fieldLink RX3 33 "KindParser$Page" "grammar" "LKindParser$Grammar;", Cond.methodLink RX3 92 yX3_layGap]
def wsX3_layOut_r4 : List Cond := [Cond.instanceMethod yX3_layGap, Cond.selects RX3 yX3_layGap yX3_layGap, Cond.code yX3_layGap cX3_layGap 4 none, Cond.methodLink RX3 103 yX3_put, Cond.instanceMethod yX3_put, Cond.selects RX3 yX3_put yX3_put, Cond.code yX3_put cX3_put 2 none, Cond.fieldLink RX3 11 "KindParser$Page" "sheet" "[B", Cond.methodLink RX3 95 yX3_layTokens, Cond.instanceMethod yX3_layTokens, Cond.selects RX3 yX3_layTokens yX3_layTokens, Cond.code yX3_layTokens cX3_layTokens 4 none, Cond.methodLink RX3 107 yX3_layComments, Cond.instanceMethod yX3_layComments, Cond.selects RX3 yX3_layComments yX3_layComments, Cond.code yX3_layComments cX3_layComments 4 none, Cond.methodLink RX3 110 yX1_commentsOf, Cond.methodLink RX3 119 yX3_layText, Cond.instanceMethod yX3_layText, Cond.selects RX3 yX3_layText yX3_layText, Cond.code yX3_layText cX3_layText 4 none, Cond.methodLink RX3 59 yX3_layEnd, Cond.instanceMethod yX3_layEnd, Cond.selects RX3 yX3_layEnd yX3_layEnd]
def wsX3_layOut_r5 : List Cond := [Cond.code yX3_layEnd cX3_layEnd 2 none]
def wsX3_layOut : List Cond := .code yX3_layOut cX3_layOut 3 none :: ((wsX3_layOut_r1 ++ (wsX3_layOut_r2 ++ (wsX3_layOut_r3 ++ (wsX3_layOut_r4 ++ wsX3_layOut_r5)))) ++ wsX30 ++ wsX40 ++ wsX10 ++ wsX20)
def wsX4_init : List Cond := .code yX4_init cX4_init 3 none :: ([.methodLink RX4 3 objectInit, .instanceMethod objectInit, .code objectInit ⟨#[0xb1]⟩ 1 none, .arrayClass .int, .fieldLink RX4 11 "KindParser$Tree" "cells" "[I", .fieldLink RX4 15 "KindParser$Tree" "hints" "[I", .fieldLink RX4 18 "KindParser$Tree" "within" "[I", .fieldLink RX4 21 "KindParser$Tree" "begins" "[I", .fieldLink RX4 24 "KindParser$Tree" "waitSymbols" "[I", .fieldLink RX4 27 "KindParser$Tree" "waitParents" "[I", .fieldLink RX4 30 "KindParser$Tree" "waitFirsts" "[I", .fieldLink RX4 33 "KindParser$Tree" "waitEnds" "[I", .fieldLink RX4 36 "KindParser$Tree" "waitHints" "[I", .fieldLink RX4 39 "KindParser$Tree" "waiting" "I", .fieldLink RX4 43 "KindParser$Tree" "size" "I", .fieldLink RX4 46 "KindParser$Tree" "skipped" "I", .fieldLink RX4 49 "KindParser$Tree" "grammar" "LKindParser$Grammar;", .fieldLink RX4 53 "KindParser$Tree" "chart" "LKindParser$Chart;"] ++ wsX40)
def wsX4_drop : List Cond := .code yX4_drop cX4_drop 1 none :: ([.fieldLink RX4 43 "KindParser$Tree" "size" "I", .fieldLink RX4 46 "KindParser$Tree" "skipped" "I"] ++ wsX40)
def wsX4_await : List Cond := .code yX4_await cX4_await 6 (some .boolean) :: ([.fieldLink RX4 43 "KindParser$Tree" "size" "I", .fieldLink RX4 39 "KindParser$Tree" "waiting" "I", .fieldLink RX4 24 "KindParser$Tree" "waitSymbols" "[I", .fieldLink RX4 27 "KindParser$Tree" "waitParents" "[I", .fieldLink RX4 30 "KindParser$Tree" "waitFirsts" "[I", .fieldLink RX4 33 "KindParser$Tree" "waitEnds" "[I", .fieldLink RX4 36 "KindParser$Tree" "waitHints" "[I"] ++ wsX40)
def wsX4_placeNode_r1 : List Cond := [Cond.fieldLink RX4 53 "KindParser$Tree" "chart" "LKindParser$Chart;", Cond.fieldLink RX4 18 "KindParser$Tree" "within" "[I", Cond.fieldLink RX4 49 "KindParser$Tree" "grammar" "LKindParser$Grammar;", Cond.fieldLink RX4 11 "KindParser$Tree" "cells" "[I", Cond.fieldLink RX4 21 "KindParser$Tree" "begins" "[I", Cond.methodLink RX4 94 yX0_ruleFor, Cond.instanceMethod yX0_ruleFor, Cond.selects RX0 yX0_ruleFor yX0_ruleFor, Cond.initialized RX0, Cond.code yX0_ruleFor cX0_ruleFor 4 (some .int), Cond.fieldLink RX0 15 "KindParser$Chart" "choices" "[B", Cond.methodLink RX0 67 yX0_choiceSpot, Cond.static yX0_choiceSpot, Cond.code yX0_choiceSpot cX0_choiceSpot 3 (some .int), Cond.methodLink RX4 102 yX0_split, Cond.instanceMethod yX0_split, Cond.selects RX0 yX0_split yX0_split, Cond.code yX0_split cX0_split 12 none, Cond.fieldLink RX0 25 "KindParser$Chart" "grammar" "LKindParser$Grammar;", Cond.fieldLink RX0 22 "KindParser$Chart" "traced" "[J", Cond.fieldLink RX0 11 "KindParser$Chart" "prices" "[J", Cond.methodLink RX0 101 yX0_trace, Cond.instanceMethod yX0_trace, Cond.selects RX0 yX0_trace yX0_trace]
def wsX4_placeNode_r2 : List Cond := [Cond.code yX0_trace cX0_trace 11 none, Cond.constantLong RX0 65 (1152921504606846976), Cond.methodLink RX0 88 Lib.MathLoose.min_long.x, Cond.static Lib.MathLoose.min_long.x, Cond.initialized "java/lang/Math", Cond.code Lib.MathLoose.min_long.x Lib.MathLoose.min_long.code 4 (some .long), Cond.methodLink RX0 81 yX2_symbolOf, Cond.instanceMethod yX2_symbolOf, Cond.selects RX2 yX2_symbolOf yX2_symbolOf, Cond.initialized RX2, Cond.code yX2_symbolOf cX2_symbolOf 3 (some .int), Cond.fieldLink RX2 18 "KindParser$Grammar" "symbols" "[I", Cond.methodLink RX0 55 yX0_spot, Cond.static yX0_spot, Cond.code yX0_spot cX0_spot 3 (some .int), Cond.methodLink RX4 106 yX2_hintOf, Cond.instanceMethod yX2_hintOf, Cond.selects RX2 yX2_hintOf yX2_hintOf, Cond.code yX2_hintOf cX2_hintOf 3 (some .int), Cond.fieldLink RX2 21 "KindParser$Grammar" "hints" "[I", Cond.methodLink RX4 109 yX2_symbolOf, Cond.methodLink RX4 70 yX4_await, Cond.instanceMethod yX4_await, Cond.selects RX4 yX4_await yX4_await]
def wsX4_placeNode_r3 : List Cond := [Cond.initialized RX4, Cond.code yX4_await cX4_await 6 (some .boolean), Cond.fieldLink RX4 43 "KindParser$Tree" "size" "I", Cond.fieldLink RX4 39 "KindParser$Tree" "waiting" "I", Cond.fieldLink RX4 24 "KindParser$Tree" "waitSymbols" "[I", Cond.fieldLink RX4 27 "KindParser$Tree" "waitParents" "[I", Cond.fieldLink RX4 30 "KindParser$Tree" "waitFirsts" "[I", Cond.fieldLink RX4 33 "KindParser$Tree" "waitEnds" "[I", Cond.fieldLink RX4 36 "KindParser$Tree" "waitHints" "[I"]
def wsX4_placeNode : List Cond := .code yX4_placeNode cX4_placeNode 11 (some .boolean) :: ((wsX4_placeNode_r1 ++ (wsX4_placeNode_r2 ++ wsX4_placeNode_r3)) ++ wsX40 ++ wsX20 ++ wsX00)
def wsX4_leafState : List Cond := .code yX4_leafState cX4_leafState 3 (some .int) :: ([.methodLink RX4 57 yX4_cell, .instanceMethod yX4_cell, .selects RX4 yX4_cell yX4_cell, .initialized RX4, .code yX4_cell cX4_cell 3 (some .int), .fieldLink RX4 11 "KindParser$Tree" "cells" "[I"] ++ wsX40)
def wsX4_placeNext_r1 : List Cond := [Cond.fieldLink RX4 39 "KindParser$Tree" "waiting" "I", Cond.fieldLink RX4 43 "KindParser$Tree" "size" "I", Cond.fieldLink RX4 24 "KindParser$Tree" "waitSymbols" "[I", Cond.fieldLink RX4 27 "KindParser$Tree" "waitParents" "[I", Cond.fieldLink RX4 30 "KindParser$Tree" "waitFirsts" "[I", Cond.fieldLink RX4 33 "KindParser$Tree" "waitEnds" "[I", Cond.fieldLink RX4 11 "KindParser$Tree" "cells" "[I", Cond.fieldLink RX4 53 "KindParser$Tree" "chart" "LKindParser$Chart;", Cond.fieldLink RX4 15 "KindParser$Tree" "hints" "[I", Cond.fieldLink RX4 36 "KindParser$Tree" "waitHints" "[I", Cond.fieldLink RX4 18 "KindParser$Tree" "within" "[I", Cond.methodLink RX4 78 yX0_costOf, Cond.instanceMethod yX0_costOf, Cond.selects RX0 yX0_costOf yX0_costOf, Cond.initialized RX0, Cond.code yX0_costOf cX0_costOf 4 (some .int), Cond.fieldLink RX0 11 "KindParser$Chart" "prices" "[J", Cond.methodLink RX0 55 yX0_spot, Cond.static yX0_spot, Cond.code yX0_spot cX0_spot 3 (some .int), Cond.static yX5_isKind, Cond.initialized RX5, Cond.code yX5_isKind cX5_isKind 1 (some .boolean), Cond.methodLink RX4 86 yX4_placeNode]
def wsX4_placeNext_r2 : List Cond := [Cond.instanceMethod yX4_placeNode, Cond.selects RX4 yX4_placeNode yX4_placeNode, Cond.initialized RX4, Cond.code yX4_placeNode cX4_placeNode 11 (some .boolean), Cond.fieldLink RX4 49 "KindParser$Tree" "grammar" "LKindParser$Grammar;", Cond.fieldLink RX4 21 "KindParser$Tree" "begins" "[I", Cond.methodLink RX4 94 yX0_ruleFor, Cond.instanceMethod yX0_ruleFor, Cond.selects RX0 yX0_ruleFor yX0_ruleFor, Cond.code yX0_ruleFor cX0_ruleFor 4 (some .int), Cond.fieldLink RX0 15 "KindParser$Chart" "choices" "[B", Cond.methodLink RX0 67 yX0_choiceSpot, Cond.static yX0_choiceSpot, Cond.code yX0_choiceSpot cX0_choiceSpot 3 (some .int), Cond.methodLink RX4 102 yX0_split, Cond.instanceMethod yX0_split, Cond.selects RX0 yX0_split yX0_split, Cond.code yX0_split cX0_split 12 none, Cond.fieldLink RX0 25 "KindParser$Chart" "grammar" "LKindParser$Grammar;", Cond.fieldLink RX0 22 "KindParser$Chart" "traced" "[J", Cond.methodLink RX0 101 yX0_trace, Cond.instanceMethod yX0_trace, Cond.selects RX0 yX0_trace yX0_trace, Cond.code yX0_trace cX0_trace 11 none]
def wsX4_placeNext_r3 : List Cond := [Cond.constantLong RX0 65 (1152921504606846976), Cond.methodLink RX0 88 Lib.MathLoose.min_long.x, Cond.static Lib.MathLoose.min_long.x, Cond.initialized "java/lang/Math", Cond.code Lib.MathLoose.min_long.x Lib.MathLoose.min_long.code 4 (some .long), Cond.methodLink RX0 81 yX2_symbolOf, Cond.instanceMethod yX2_symbolOf, Cond.selects RX2 yX2_symbolOf yX2_symbolOf, Cond.initialized RX2, Cond.code yX2_symbolOf cX2_symbolOf 3 (some .int), Cond.fieldLink RX2 18 "KindParser$Grammar" "symbols" "[I", Cond.methodLink RX4 106 yX2_hintOf, Cond.instanceMethod yX2_hintOf, Cond.selects RX2 yX2_hintOf yX2_hintOf, Cond.code yX2_hintOf cX2_hintOf 3 (some .int), Cond.fieldLink RX2 21 "KindParser$Grammar" "hints" "[I", Cond.methodLink RX4 109 yX2_symbolOf, Cond.methodLink RX4 70 yX4_await, Cond.instanceMethod yX4_await, Cond.selects RX4 yX4_await yX4_await, Cond.code yX4_await cX4_await 6 (some .boolean), Cond.methodLink RX4 90 yX4_leafState, Cond.instanceMethod yX4_leafState, Cond.selects RX4 yX4_leafState yX4_leafState]
def wsX4_placeNext_r4 : List Cond := [Cond.code yX4_leafState cX4_leafState 3 (some .int), Cond.methodLink RX4 57 yX4_cell, Cond.instanceMethod yX4_cell, Cond.selects RX4 yX4_cell yX4_cell, Cond.code yX4_cell cX4_cell 3 (some .int)]
def wsX4_placeNext : List Cond := .code yX4_placeNext cX4_placeNext 7 (some .boolean) :: ((wsX4_placeNext_r1 ++ (wsX4_placeNext_r2 ++ (wsX4_placeNext_r3 ++ wsX4_placeNext_r4))) ++ wsX40 ++ wsX00 ++ wsX20)
def wsX4_grow_r1 : List Cond := [Cond.fieldLink RX4 53 "KindParser$Tree" "chart" "LKindParser$Chart;", Cond.fieldLink RX4 39 "KindParser$Tree" "waiting" "I", Cond.fieldLink RX4 46 "KindParser$Tree" "skipped" "I", Cond.methodLink RX4 61 yX0_treeEnd, Cond.instanceMethod yX0_treeEnd, Cond.selects RX0 yX0_treeEnd yX0_treeEnd, Cond.initialized RX0, Cond.code yX0_treeEnd cX0_treeEnd 7 (some .int), Cond.constantLong RX0 65 (1152921504606846976), Cond.fieldLink RX0 29 "KindParser$Chart" "cut" "LKindParser$Cut;", Cond.fieldLink RX0 11 "KindParser$Chart" "prices" "[J", Cond.methodLink RX0 55 yX0_spot, Cond.static yX0_spot, Cond.code yX0_spot cX0_spot 3 (some .int), Cond.methodLink RX4 67 yX4_drop, Cond.instanceMethod yX4_drop, Cond.selects RX4 yX4_drop yX4_drop, Cond.initialized RX4, Cond.code yX4_drop cX4_drop 1 none, Cond.fieldLink RX4 43 "KindParser$Tree" "size" "I", Cond.methodLink RX4 70 yX4_await, Cond.instanceMethod yX4_await, Cond.selects RX4 yX4_await yX4_await, Cond.code yX4_await cX4_await 6 (some .boolean)]
def wsX4_grow_r2 : List Cond := [Cond.fieldLink RX4 24 "KindParser$Tree" "waitSymbols" "[I", Cond.fieldLink RX4 27 "KindParser$Tree" "waitParents" "[I", Cond.fieldLink RX4 30 "KindParser$Tree" "waitFirsts" "[I", Cond.fieldLink RX4 33 "KindParser$Tree" "waitEnds" "[I", Cond.fieldLink RX4 36 "KindParser$Tree" "waitHints" "[I", Cond.methodLink RX4 74 yX4_placeNext, Cond.instanceMethod yX4_placeNext, Cond.selects RX4 yX4_placeNext yX4_placeNext, Cond.code yX4_placeNext cX4_placeNext 7 (some .boolean), Cond.fieldLink RX4 11 "KindParser$Tree" "cells" "[I", Cond.fieldLink RX4 15 "KindParser$Tree" "hints" "[I", Cond.fieldLink RX4 18 "KindParser$Tree" "within" "[I", Cond.methodLink RX4 78 yX0_costOf, Cond.instanceMethod yX0_costOf, Cond.selects RX0 yX0_costOf yX0_costOf, Cond.code yX0_costOf cX0_costOf 4 (some .int), Cond.static yX5_isKind, Cond.initialized RX5, Cond.code yX5_isKind cX5_isKind 1 (some .boolean), Cond.methodLink RX4 86 yX4_placeNode, Cond.instanceMethod yX4_placeNode, Cond.selects RX4 yX4_placeNode yX4_placeNode, Cond.code yX4_placeNode cX4_placeNode 11 (some .boolean), Cond.fieldLink RX4 49 "KindParser$Tree" "grammar" "LKindParser$Grammar;"]
def wsX4_grow_r3 : List Cond := [Cond.fieldLink RX4 21 "KindParser$Tree" "begins" "[I", Cond.methodLink RX4 94 yX0_ruleFor, Cond.instanceMethod yX0_ruleFor, Cond.selects RX0 yX0_ruleFor yX0_ruleFor, Cond.code yX0_ruleFor cX0_ruleFor 4 (some .int), Cond.fieldLink RX0 15 "KindParser$Chart" "choices" "[B", Cond.methodLink RX0 67 yX0_choiceSpot, Cond.static yX0_choiceSpot, Cond.code yX0_choiceSpot cX0_choiceSpot 3 (some .int), Cond.methodLink RX4 102 yX0_split, Cond.instanceMethod yX0_split, Cond.selects RX0 yX0_split yX0_split, Cond.code yX0_split cX0_split 12 none, Cond.fieldLink RX0 25 "KindParser$Chart" "grammar" "LKindParser$Grammar;", Cond.fieldLink RX0 22 "KindParser$Chart" "traced" "[J", Cond.methodLink RX0 101 yX0_trace, Cond.instanceMethod yX0_trace, Cond.selects RX0 yX0_trace yX0_trace, Cond.code yX0_trace cX0_trace 11 none, Cond.methodLink RX0 88 Lib.MathLoose.min_long.x, Cond.static Lib.MathLoose.min_long.x, Cond.initialized "java/lang/Math", Cond.code Lib.MathLoose.min_long.x Lib.MathLoose.min_long.code 4 (some .long), Cond.methodLink RX0 81 yX2_symbolOf]
def wsX4_grow_r4 : List Cond := [Cond.instanceMethod yX2_symbolOf, Cond.selects RX2 yX2_symbolOf yX2_symbolOf, Cond.initialized RX2, Cond.code yX2_symbolOf cX2_symbolOf 3 (some .int), Cond.fieldLink RX2 18 "KindParser$Grammar" "symbols" "[I", Cond.methodLink RX4 106 yX2_hintOf, Cond.instanceMethod yX2_hintOf, Cond.selects RX2 yX2_hintOf yX2_hintOf, Cond.code yX2_hintOf cX2_hintOf 3 (some .int), Cond.fieldLink RX2 21 "KindParser$Grammar" "hints" "[I", Cond.methodLink RX4 109 yX2_symbolOf, Cond.methodLink RX4 90 yX4_leafState, Cond.instanceMethod yX4_leafState, Cond.selects RX4 yX4_leafState yX4_leafState, Cond.code yX4_leafState cX4_leafState 3 (some .int), Cond.methodLink RX4 57 yX4_cell, Cond.instanceMethod yX4_cell, Cond.selects RX4 yX4_cell yX4_cell, Cond.code yX4_cell cX4_cell 3 (some .int)]
def wsX4_grow : List Cond := .code yX4_grow cX4_grow 5 (some .boolean) :: ((wsX4_grow_r1 ++ (wsX4_grow_r2 ++ (wsX4_grow_r3 ++ wsX4_grow_r4))) ++ wsX40 ++ wsX00 ++ wsX10 ++ wsX20)
def wsX5_init_r1 : List Cond := [Cond.methodLink RX5 3 objectInit, Cond.instanceMethod objectInit, Cond.code objectInit ⟨#[0xb1]⟩ 1 none, Cond.classLink RX5 9 RX2, Cond.instantiable RX2 7, Cond.initialized RX2, Cond.fieldLink RX5 12 "KindParser" "grammar" "LKindParser$Grammar;", Cond.arrayClass .byte, Cond.fieldLink RX5 16 "KindParser" "text" "[B", Cond.fieldLink RX5 20 "KindParser" "length" "I", Cond.classLink RX5 24 RX1, Cond.instantiable RX1 10, Cond.initialized RX1, Cond.fieldLink RX5 27 "KindParser" "cut" "LKindParser$Cut;", Cond.classLink RX5 31 RX0, Cond.instantiable RX0 6, Cond.initialized RX0, Cond.fieldLink RX5 36 "KindParser" "chart" "LKindParser$Chart;", Cond.classLink RX5 40 RX4, Cond.instantiable RX4 14, Cond.initialized RX4, Cond.fieldLink RX5 45 "KindParser" "tree" "LKindParser$Tree;", Cond.classLink RX5 49 RX3, Cond.instantiable RX3 9]
def wsX5_init_r2 : List Cond := [Cond.initialized RX3, Cond.fieldLink RX5 54 "KindParser" "page" "LKindParser$Page;", Cond.fieldLink RX5 58 "KindParser" "repaired" "I", Cond.fieldLink RX5 61 "KindParser" "spent" "I", Cond.instanceMethod yX2_init, Cond.code yX2_init cX2_init 1 none, Cond.methodLink RX2 3 objectInit, Cond.arrayClass .int, Cond.fieldLink RX2 9 "KindParser$Grammar" "heads" "[I", Cond.fieldLink RX2 15 "KindParser$Grammar" "lengths" "[I", Cond.fieldLink RX2 18 "KindParser$Grammar" "symbols" "[I", Cond.fieldLink RX2 21 "KindParser$Grammar" "hints" "[I", Cond.arrayClass .boolean, Cond.fieldLink RX2 24 "KindParser$Grammar" "ins" "[Z", Cond.fieldLink RX2 28 "KindParser$Grammar" "ground" "[Z", Cond.fieldLink RX2 31 "KindParser$Grammar" "size" "I", Cond.instanceMethod yX1_init, Cond.code yX1_init cX1_init 1 none, Cond.methodLink RX1 3 objectInit, Cond.fieldLink RX1 9 "KindParser$Cut" "text" "[B", Cond.fieldLink RX1 15 "KindParser$Cut" "length" "I", Cond.fieldLink RX1 19 "KindParser$Cut" "starts" "[I", Cond.fieldLink RX1 23 "KindParser$Cut" "lengths" "[I", Cond.fieldLink RX1 26 "KindParser$Cut" "signs" "[I"]
def wsX5_init_r3 : List Cond := [Cond.fieldLink RX1 29 "KindParser$Cut" "firstComments" "[I", Cond.fieldLink RX1 32 "KindParser$Cut" "commentStarts" "[I", Cond.fieldLink RX1 35 "KindParser$Cut" "commentEnds" "[I", Cond.fieldLink RX1 38 "KindParser$Cut" "size" "I", Cond.fieldLink RX1 41 "KindParser$Cut" "comments" "I", Cond.methodLink RX5 33 yX0_init, Cond.instanceMethod yX0_init, Cond.code yX0_init cX0_init 3 none, Cond.methodLink RX0 5 objectInit, Cond.arrayClass .long, Cond.fieldLink RX0 11 "KindParser$Chart" "prices" "[J", Cond.fieldLink RX0 15 "KindParser$Chart" "choices" "[B", Cond.fieldLink RX0 19 "KindParser$Chart" "begun" "[J", Cond.fieldLink RX0 22 "KindParser$Chart" "traced" "[J", Cond.fieldLink RX0 25 "KindParser$Chart" "grammar" "LKindParser$Grammar;", Cond.fieldLink RX0 29 "KindParser$Chart" "cut" "LKindParser$Cut;", Cond.methodLink RX5 42 yX4_init, Cond.instanceMethod yX4_init, Cond.code yX4_init cX4_init 3 none, Cond.methodLink RX4 3 objectInit, Cond.fieldLink RX4 11 "KindParser$Tree" "cells" "[I", Cond.fieldLink RX4 15 "KindParser$Tree" "hints" "[I", Cond.fieldLink RX4 18 "KindParser$Tree" "within" "[I", Cond.fieldLink RX4 21 "KindParser$Tree" "begins" "[I"]
def wsX5_init_r4 : List Cond := [Cond.fieldLink RX4 24 "KindParser$Tree" "waitSymbols" "[I", Cond.fieldLink RX4 27 "KindParser$Tree" "waitParents" "[I", Cond.fieldLink RX4 30 "KindParser$Tree" "waitFirsts" "[I", Cond.fieldLink RX4 33 "KindParser$Tree" "waitEnds" "[I", Cond.fieldLink RX4 36 "KindParser$Tree" "waitHints" "[I", Cond.fieldLink RX4 39 "KindParser$Tree" "waiting" "I", Cond.fieldLink RX4 43 "KindParser$Tree" "size" "I", Cond.fieldLink RX4 46 "KindParser$Tree" "skipped" "I", Cond.fieldLink RX4 49 "KindParser$Tree" "grammar" "LKindParser$Grammar;", Cond.fieldLink RX4 53 "KindParser$Tree" "chart" "LKindParser$Chart;", Cond.methodLink RX5 51 yX3_init, Cond.instanceMethod yX3_init, Cond.code yX3_init cX3_init 4 none, Cond.methodLink RX3 3 objectInit, Cond.fieldLink RX3 11 "KindParser$Page" "sheet" "[B", Cond.fieldLink RX3 15 "KindParser$Page" "flats" "[I", Cond.fieldLink RX3 19 "KindParser$Page" "broken" "[Z", Cond.fieldLink RX3 23 "KindParser$Page" "indents" "[I", Cond.fieldLink RX3 26 "KindParser$Page" "size" "I", Cond.fieldLink RX3 30 "KindParser$Page" "column" "I", Cond.fieldLink RX3 33 "KindParser$Page" "grammar" "LKindParser$Grammar;", Cond.fieldLink RX3 37 "KindParser$Page" "cut" "LKindParser$Cut;", Cond.fieldLink RX3 41 "KindParser$Page" "tree" "LKindParser$Tree;"]
def wsX5_init : List Cond := .code yX5_init cX5_init 1 none :: ((wsX5_init_r1 ++ (wsX5_init_r2 ++ (wsX5_init_r3 ++ wsX5_init_r4))) ++ wsX20 ++ wsX50 ++ wsX10 ++ wsX00 ++ wsX40 ++ wsX30)
def wsX5_rule_r1 : List Cond := [Cond.classLink RX5 76 "java/lang/IllegalArgumentException", Cond.initialized "java/lang/IllegalArgumentException", Cond.classLink RX5 86 "java/lang/IllegalStateException", Cond.initialized "java/lang/IllegalStateException", Cond.fieldLink RX5 12 "KindParser" "grammar" "LKindParser$Grammar;", Cond.fieldLink RX5 45 "KindParser" "tree" "LKindParser$Tree;", Cond.methodLink RX5 64 yX2_symbolsIn, Cond.static yX2_symbolsIn, Cond.initialized RX2, Cond.code yX2_symbolsIn cX2_symbolsIn 5 (some .int), Cond.constant RX2 35 (1048576), Cond.methodLink RX5 68 yX5_isKind, Cond.static yX5_isKind, Cond.initialized RX5, Cond.code yX5_isKind cX5_isKind 1 (some .boolean), Cond.methodLink RX5 72 yX2_hintsFit, Cond.static yX2_hintsFit, Cond.code yX2_hintsFit cX2_hintsFit 4 (some .boolean), Cond.methodLink RX5 91 yX4_drop, Cond.instanceMethod yX4_drop, Cond.selects RX4 yX4_drop yX4_drop, Cond.initialized RX4, Cond.code yX4_drop cX4_drop 1 none, Cond.fieldLink RX4 43 "KindParser$Tree" "size" "I"]
def wsX5_rule_r2 : List Cond := [Cond.fieldLink RX4 46 "KindParser$Tree" "skipped" "I", Cond.methodLink RX5 94 yX2_add, Cond.instanceMethod yX2_add, Cond.selects RX2 yX2_add yX2_add, Cond.code yX2_add cX2_add 9 (some .int), Cond.fieldLink RX2 31 "KindParser$Grammar" "size" "I", Cond.fieldLink RX2 9 "KindParser$Grammar" "heads" "[I", Cond.fieldLink RX2 15 "KindParser$Grammar" "lengths" "[I", Cond.fieldLink RX2 24 "KindParser$Grammar" "ins" "[Z", Cond.fieldLink RX2 18 "KindParser$Grammar" "symbols" "[I", Cond.fieldLink RX2 21 "KindParser$Grammar" "hints" "[I", Cond.methodLink RX2 36 yX2_symbolsIn, Cond.methodLink RX2 40 yX2_findGround, Cond.instanceMethod yX2_findGround, Cond.selects RX2 yX2_findGround yX2_findGround, Cond.code yX2_findGround cX2_findGround 4 none, Cond.fieldLink RX2 28 "KindParser$Grammar" "ground" "[Z", Cond.methodLink RX2 47 yX2_hasGround, Cond.instanceMethod yX2_hasGround, Cond.selects RX2 yX2_hasGround yX2_hasGround, Cond.code yX2_hasGround cX2_hasGround 2 (some .boolean), Cond.methodLink RX2 50 yX2_standsOnGround, Cond.instanceMethod yX2_standsOnGround, Cond.selects RX2 yX2_standsOnGround yX2_standsOnGround]
def wsX5_rule_r3 : List Cond := [Cond.code yX2_standsOnGround cX2_standsOnGround 4 (some .boolean), Cond.methodLink RX2 53 yX2_symbolOf, Cond.instanceMethod yX2_symbolOf, Cond.selects RX2 yX2_symbolOf yX2_symbolOf, Cond.code yX2_symbolOf cX2_symbolOf 3 (some .int)]
def wsX5_byteOf : List Cond := .code yX5_byteOf cX5_byteOf 3 (some .int) :: ([])
def wsX5_areCharacters : List Cond := .code yX5_areCharacters cX5_areCharacters 5 (some .boolean) :: ([.methodLink RX5 106 yX5_byteOf, .static yX5_byteOf, .initialized RX5, .code yX5_byteOf cX5_byteOf 3 (some .int)])
def wsX5_erase : List Cond := .code yX5_erase cX5_erase 2 (some .int) :: ([.fieldLink RX5 20 "KindParser" "length" "I"] ++ wsX50)
def wsX5_repair_r1 : List Cond := [Cond.classLink RX5 113 "java/lang/UnsupportedOperationException", Cond.initialized "java/lang/UnsupportedOperationException", Cond.classLink RX5 86 "java/lang/IllegalStateException", Cond.initialized "java/lang/IllegalStateException", Cond.fieldLink RX5 12 "KindParser" "grammar" "LKindParser$Grammar;", Cond.fieldLink RX5 45 "KindParser" "tree" "LKindParser$Tree;", Cond.fieldLink RX5 27 "KindParser" "cut" "LKindParser$Cut;", Cond.fieldLink RX5 16 "KindParser" "text" "[B", Cond.fieldLink RX5 20 "KindParser" "length" "I", Cond.fieldLink RX5 36 "KindParser" "chart" "LKindParser$Chart;", Cond.fieldLink RX5 58 "KindParser" "repaired" "I", Cond.fieldLink RX5 61 "KindParser" "spent" "I", Cond.methodLink RX5 110 yX2_hasGround, Cond.instanceMethod yX2_hasGround, Cond.selects RX2 yX2_hasGround yX2_hasGround, Cond.initialized RX2, Cond.code yX2_hasGround cX2_hasGround 2 (some .boolean), Cond.fieldLink RX2 28 "KindParser$Grammar" "ground" "[Z", Cond.static yX5_isKind, Cond.initialized RX5, Cond.code yX5_isKind cX5_isKind 1 (some .boolean), Cond.methodLink RX5 91 yX4_drop, Cond.instanceMethod yX4_drop, Cond.selects RX4 yX4_drop yX4_drop]
def wsX5_repair_r2 : List Cond := [Cond.initialized RX4, Cond.code yX4_drop cX4_drop 1 none, Cond.fieldLink RX4 43 "KindParser$Tree" "size" "I", Cond.fieldLink RX4 46 "KindParser$Tree" "skipped" "I", Cond.methodLink RX5 118 yX1_read, Cond.instanceMethod yX1_read, Cond.selects RX1 yX1_read yX1_read, Cond.initialized RX1, Cond.code yX1_read cX1_read 5 (some .boolean), Cond.methodLink RX1 44 Lib.Math.min.name, Cond.static Lib.Math.min.name, Cond.initialized "java/lang/Math", Cond.code Lib.Math.min.name Lib.Math.min.code 2 (some .int), Cond.methodLink RX1 50 Lib.Math.max.name, Cond.static Lib.Math.max.name, Cond.code Lib.Math.max.name Lib.Math.max.code 2 (some .int), Cond.fieldLink RX1 15 "KindParser$Cut" "length" "I", Cond.fieldLink RX1 9 "KindParser$Cut" "text" "[B", Cond.methodLink RX1 53 arraycopyName, Cond.native arraycopyName, Cond.static arraycopyName, Cond.initialized "java/lang/System", Cond.fieldLink RX1 38 "KindParser$Cut" "size" "I", Cond.fieldLink RX1 41 "KindParser$Cut" "comments" "I"]
def wsX5_repair_r3 : List Cond := [Cond.fieldLink RX1 29 "KindParser$Cut" "firstComments" "[I", Cond.methodLink RX1 59 yX1_take, Cond.instanceMethod yX1_take, Cond.selects RX1 yX1_take yX1_take, Cond.code yX1_take cX1_take 6 (some .int), Cond.fieldLink RX1 19 "KindParser$Cut" "starts" "[I", Cond.fieldLink RX1 23 "KindParser$Cut" "lengths" "[I", Cond.fieldLink RX1 26 "KindParser$Cut" "signs" "[I", Cond.methodLink RX1 63 yX1_closing, Cond.instanceMethod yX1_closing, Cond.selects RX1 yX1_closing yX1_closing, Cond.code yX1_closing cX1_closing 3 (some .int), Cond.methodLink RX1 66 yX1_takeComment, Cond.instanceMethod yX1_takeComment, Cond.selects RX1 yX1_takeComment yX1_takeComment, Cond.code yX1_takeComment cX1_takeComment 3 (some .int), Cond.fieldLink RX1 32 "KindParser$Cut" "commentStarts" "[I", Cond.fieldLink RX1 35 "KindParser$Cut" "commentEnds" "[I", Cond.methodLink RX1 69 yX1_behindDigits, Cond.instanceMethod yX1_behindDigits, Cond.selects RX1 yX1_behindDigits yX1_behindDigits, Cond.code yX1_behindDigits cX1_behindDigits 3 (some .int), Cond.static yX5_isDigit, Cond.code yX5_isDigit cX5_isDigit 1 (some .boolean)]
def wsX5_repair_r4 : List Cond := [Cond.methodLink RX5 124 yX0_fill, Cond.instanceMethod yX0_fill, Cond.selects RX0 yX0_fill yX0_fill, Cond.initialized RX0, Cond.code yX0_fill cX0_fill 3 none, Cond.fieldLink RX0 29 "KindParser$Chart" "cut" "LKindParser$Cut;", Cond.methodLink RX0 33 yX0_priceLeaves, Cond.instanceMethod yX0_priceLeaves, Cond.selects RX0 yX0_priceLeaves yX0_priceLeaves, Cond.code yX0_priceLeaves cX0_priceLeaves 6 none, Cond.fieldLink RX0 11 "KindParser$Chart" "prices" "[J", Cond.constantLong RX0 59 (4294967296), Cond.methodLink RX0 55 yX0_spot, Cond.static yX0_spot, Cond.code yX0_spot cX0_spot 3 (some .int), Cond.methodLink RX0 61 yX1_signOf, Cond.instanceMethod yX1_signOf, Cond.selects RX1 yX1_signOf yX1_signOf, Cond.code yX1_signOf cX1_signOf 2 (some .int), Cond.methodLink RX0 42 yX0_forget, Cond.instanceMethod yX0_forget, Cond.selects RX0 yX0_forget yX0_forget, Cond.code yX0_forget cX0_forget 4 none, Cond.constantLong RX0 65 (1152921504606846976)]
def wsX5_repair_r5 : List Cond := [Cond.fieldLink RX0 15 "KindParser$Chart" "choices" "[B", Cond.methodLink RX0 67 yX0_choiceSpot, Cond.static yX0_choiceSpot, Cond.code yX0_choiceSpot cX0_choiceSpot 3 (some .int), Cond.methodLink RX0 46 yX0_joinInside, Cond.instanceMethod yX0_joinInside, Cond.selects RX0 yX0_joinInside yX0_joinInside, Cond.code yX0_joinInside cX0_joinInside 6 none, Cond.fieldLink RX0 25 "KindParser$Chart" "grammar" "LKindParser$Grammar;", Cond.fieldLink RX0 19 "KindParser$Chart" "begun" "[J", Cond.methodLink RX0 73 yX0_begunRow, Cond.static yX0_begunRow, Cond.code yX0_begunRow cX0_begunRow 2 (some .int), Cond.methodLink RX0 81 yX2_symbolOf, Cond.instanceMethod yX2_symbolOf, Cond.selects RX2 yX2_symbolOf yX2_symbolOf, Cond.code yX2_symbolOf cX2_symbolOf 3 (some .int), Cond.fieldLink RX2 18 "KindParser$Grammar" "symbols" "[I", Cond.methodLink RX0 84 yX0_leastInside, Cond.instanceMethod yX0_leastInside, Cond.selects RX0 yX0_leastInside yX0_leastInside, Cond.code yX0_leastInside cX0_leastInside 9 (some .long), Cond.methodLink RX0 88 Lib.MathLoose.min_long.x, Cond.static Lib.MathLoose.min_long.x]
def wsX5_repair_r6 : List Cond := [Cond.code Lib.MathLoose.min_long.x Lib.MathLoose.min_long.code 4 (some .long), Cond.methodLink RX0 49 yX0_settle, Cond.instanceMethod yX0_settle, Cond.selects RX0 yX0_settle yX0_settle, Cond.code yX0_settle cX0_settle 9 none, Cond.methodLink RX0 97 yX0_extend, Cond.instanceMethod yX0_extend, Cond.selects RX0 yX0_extend yX0_extend, Cond.code yX0_extend cX0_extend 11 (some .long), Cond.methodLink RX0 52 yX0_choose, Cond.instanceMethod yX0_choose, Cond.selects RX0 yX0_choose yX0_choose, Cond.code yX0_choose cX0_choose 7 none, Cond.methodLink RX5 128 yX4_grow, Cond.instanceMethod yX4_grow, Cond.selects RX4 yX4_grow yX4_grow, Cond.code yX4_grow cX4_grow 5 (some .boolean), Cond.fieldLink RX4 53 "KindParser$Tree" "chart" "LKindParser$Chart;", Cond.fieldLink RX4 39 "KindParser$Tree" "waiting" "I", Cond.methodLink RX4 61 yX0_treeEnd, Cond.instanceMethod yX0_treeEnd, Cond.selects RX0 yX0_treeEnd yX0_treeEnd, Cond.code yX0_treeEnd cX0_treeEnd 7 (some .int), Cond.methodLink RX4 67 yX4_drop]
def wsX5_repair_r7 : List Cond := [Cond.methodLink RX4 70 yX4_await, Cond.instanceMethod yX4_await, Cond.selects RX4 yX4_await yX4_await, Cond.code yX4_await cX4_await 6 (some .boolean), Cond.fieldLink RX4 24 "KindParser$Tree" "waitSymbols" "[I", Cond.fieldLink RX4 27 "KindParser$Tree" "waitParents" "[I", Cond.fieldLink RX4 30 "KindParser$Tree" "waitFirsts" "[I", Cond.fieldLink RX4 33 "KindParser$Tree" "waitEnds" "[I", Cond.fieldLink RX4 36 "KindParser$Tree" "waitHints" "[I", Cond.methodLink RX4 74 yX4_placeNext, Cond.instanceMethod yX4_placeNext, Cond.selects RX4 yX4_placeNext yX4_placeNext, Cond.code yX4_placeNext cX4_placeNext 7 (some .boolean), Cond.fieldLink RX4 11 "KindParser$Tree" "cells" "[I", Cond.fieldLink RX4 15 "KindParser$Tree" "hints" "[I", Cond.fieldLink RX4 18 "KindParser$Tree" "within" "[I", Cond.methodLink RX4 78 yX0_costOf, Cond.instanceMethod yX0_costOf, Cond.selects RX0 yX0_costOf yX0_costOf, Cond.code yX0_costOf cX0_costOf 4 (some .int), Cond.methodLink RX4 86 yX4_placeNode, Cond.instanceMethod yX4_placeNode, Cond.selects RX4 yX4_placeNode yX4_placeNode, Cond.code yX4_placeNode cX4_placeNode 11 (some .boolean)]
def wsX5_repair_r8 : List Cond := [Cond.fieldLink RX4 49 "KindParser$Tree" "grammar" "LKindParser$Grammar;", Cond.fieldLink RX4 21 "KindParser$Tree" "begins" "[I", Cond.methodLink RX4 94 yX0_ruleFor, Cond.instanceMethod yX0_ruleFor, Cond.selects RX0 yX0_ruleFor yX0_ruleFor, Cond.code yX0_ruleFor cX0_ruleFor 4 (some .int), Cond.methodLink RX4 102 yX0_split, Cond.instanceMethod yX0_split, Cond.selects RX0 yX0_split yX0_split, Cond.code yX0_split cX0_split 12 none, Cond.fieldLink RX0 22 "KindParser$Chart" "traced" "[J", Cond.methodLink RX0 101 yX0_trace, Cond.instanceMethod yX0_trace, Cond.selects RX0 yX0_trace yX0_trace, Cond.code yX0_trace cX0_trace 11 none, Cond.methodLink RX4 106 yX2_hintOf, Cond.instanceMethod yX2_hintOf, Cond.selects RX2 yX2_hintOf yX2_hintOf, Cond.code yX2_hintOf cX2_hintOf 3 (some .int), Cond.fieldLink RX2 21 "KindParser$Grammar" "hints" "[I", Cond.methodLink RX4 109 yX2_symbolOf, Cond.methodLink RX4 90 yX4_leafState, Cond.instanceMethod yX4_leafState, Cond.selects RX4 yX4_leafState yX4_leafState]
def wsX5_repair_r9 : List Cond := [Cond.code yX4_leafState cX4_leafState 3 (some .int), Cond.methodLink RX4 57 yX4_cell, Cond.instanceMethod yX4_cell, Cond.selects RX4 yX4_cell yX4_cell, Cond.code yX4_cell cX4_cell 3 (some .int), Cond.methodLink RX5 133 yX4_cell]
def wsX5_tokens : List Cond := .code yX5_tokens cX5_tokens 1 (some .int) :: ([.fieldLink RX5 45 "KindParser" "tree" "LKindParser$Tree;", .fieldLink RX5 27 "KindParser" "cut" "LKindParser$Cut;"] ++ wsX50 ++ wsX40 ++ wsX10)
def wsX5_parts : List Cond := .code yX5_parts cX5_parts 1 (some .int) :: ([.fieldLink RX5 45 "KindParser" "tree" "LKindParser$Tree;"] ++ wsX50 ++ wsX40)
def wsX5_print_r1 : List Cond := [Cond.classLink RX5 76 "java/lang/IllegalArgumentException", Cond.initialized "java/lang/IllegalArgumentException", Cond.classLink RX5 86 "java/lang/IllegalStateException", Cond.initialized "java/lang/IllegalStateException", Cond.fieldLink RX5 45 "KindParser" "tree" "LKindParser$Tree;", Cond.fieldLink RX5 54 "KindParser" "page" "LKindParser$Page;", Cond.methodLink RX5 161 yX3_layOut, Cond.instanceMethod yX3_layOut, Cond.selects RX3 yX3_layOut yX3_layOut, Cond.initialized RX3, Cond.code yX3_layOut cX3_layOut 3 none, Cond.fieldLink RX3 26 "KindParser$Page" "size" "I", Cond.fieldLink RX3 30 "KindParser$Page" "column" "I", Cond.fieldLink RX3 41 "KindParser$Page" "tree" "LKindParser$Tree;", Cond.methodLink RX3 45 yX3_measure, Cond.instanceMethod yX3_measure, Cond.selects RX3 yX3_measure yX3_measure, Cond.code yX3_measure cX3_measure 3 none, Cond.fieldLink RX3 15 "KindParser$Page" "flats" "[I", Cond.methodLink RX3 62 yX4_isLeaf, Cond.instanceMethod yX4_isLeaf, Cond.selects RX4 yX4_isLeaf yX4_isLeaf, Cond.initialized RX4, Cond.code yX4_isLeaf cX4_isLeaf 2 (some .boolean)]
def wsX5_print_r2 : List Cond := [Cond.methodLink RX4 57 yX4_cell, Cond.instanceMethod yX4_cell, Cond.selects RX4 yX4_cell yX4_cell, Cond.code yX4_cell cX4_cell 3 (some .int), Cond.fieldLink RX4 11 "KindParser$Tree" "cells" "[I", Cond.methodLink RX3 66 yX3_leafWidth, Cond.instanceMethod yX3_leafWidth, Cond.selects RX3 yX3_leafWidth yX3_leafWidth, Cond.code yX3_leafWidth cX3_leafWidth 6 (some .int), Cond.methodLink RX3 76 Lib.Math.max.name, Cond.static Lib.Math.max.name, Cond.initialized "java/lang/Math", Cond.code Lib.Math.max.name Lib.Math.max.code 2 (some .int), Cond.fieldLink RX3 37 "KindParser$Page" "cut" "LKindParser$Cut;", Cond.methodLink RX3 51 yX4_cell, Cond.methodLink RX3 81 yX1_widthOf, Cond.instanceMethod yX1_widthOf, Cond.selects RX1 yX1_widthOf yX1_widthOf, Cond.initialized RX1, Cond.code yX1_widthOf cX1_widthOf 5 (some .int), Cond.fieldLink RX1 29 "KindParser$Cut" "firstComments" "[I", Cond.fieldLink RX1 35 "KindParser$Cut" "commentEnds" "[I", Cond.fieldLink RX1 32 "KindParser$Cut" "commentStarts" "[I", Cond.methodLink RX1 79 yX1_lengthOf]
def wsX5_print_r3 : List Cond := [Cond.instanceMethod yX1_lengthOf, Cond.selects RX1 yX1_lengthOf yX1_lengthOf, Cond.code yX1_lengthOf cX1_lengthOf 2 (some .int), Cond.fieldLink RX1 38 "KindParser$Cut" "size" "I", Cond.fieldLink RX1 23 "KindParser$Cut" "lengths" "[I", Cond.methodLink RX1 76 yX1_commentsOf, Cond.instanceMethod yX1_commentsOf, Cond.selects RX1 yX1_commentsOf yX1_commentsOf, Cond.code yX1_commentsOf cX1_commentsOf 2 (some .int), Cond.methodLink RX3 70 yX3_hasGap, Cond.instanceMethod yX3_hasGap, Cond.selects RX3 yX3_hasGap yX3_hasGap, Cond.code yX3_hasGap cX3_hasGap 3 (some .boolean), Cond.methodLink RX3 73 yX3_flatGap, Cond.instanceMethod yX3_flatGap, Cond.selects RX3 yX3_flatGap yX3_flatGap, Cond.code yX3_flatGap cX3_flatGap 3 (some .int), Cond.methodLink RX3 89 yX1_beginsWithDigit, Cond.instanceMethod yX1_beginsWithDigit, Cond.selects RX1 yX1_beginsWithDigit yX1_beginsWithDigit, Cond.code yX1_beginsWithDigit cX1_beginsWithDigit 2 (some .boolean), Cond.fieldLink RX1 9 "KindParser$Cut" "text" "[B", Cond.fieldLink RX1 19 "KindParser$Cut" "starts" "[I", Cond.static yX5_isDigit]
def wsX5_print_r4 : List Cond := [Cond.initialized RX5, Cond.code yX5_isDigit cX5_isDigit 1 (some .boolean), Cond.methodLink RX3 55 yX3_layPart, Cond.instanceMethod yX3_layPart, Cond.selects RX3 yX3_layPart yX3_layPart, Cond.code yX3_layPart cX3_layPart 5 none, Cond.fieldLink RX3 19 "KindParser$Page" "broken" "[Z", Cond.fieldLink RX3 23 "KindParser$Page" "indents" "[I", Cond.fieldLink RX3 33 "KindParser$Page" "grammar" "LKindParser$Grammar;", Cond.methodLink RX3 92 yX3_layGap, Cond.instanceMethod yX3_layGap, Cond.selects RX3 yX3_layGap yX3_layGap, Cond.code yX3_layGap cX3_layGap 4 none, Cond.methodLink RX3 103 yX3_put, Cond.instanceMethod yX3_put, Cond.selects RX3 yX3_put yX3_put, Cond.code yX3_put cX3_put 2 none, Cond.fieldLink RX3 11 "KindParser$Page" "sheet" "[B", Cond.methodLink RX3 95 yX3_layTokens, Cond.instanceMethod yX3_layTokens, Cond.selects RX3 yX3_layTokens yX3_layTokens, Cond.code yX3_layTokens cX3_layTokens 4 none, Cond.methodLink RX3 107 yX3_layComments, Cond.instanceMethod yX3_layComments]
def wsX5_print_r5 : List Cond := [Cond.selects RX3 yX3_layComments yX3_layComments, Cond.code yX3_layComments cX3_layComments 4 none, Cond.methodLink RX3 110 yX1_commentsOf, Cond.methodLink RX3 119 yX3_layText, Cond.instanceMethod yX3_layText, Cond.selects RX3 yX3_layText yX3_layText, Cond.code yX3_layText cX3_layText 4 none, Cond.methodLink RX3 59 yX3_layEnd, Cond.instanceMethod yX3_layEnd, Cond.selects RX3 yX3_layEnd yX3_layEnd, Cond.code yX3_layEnd cX3_layEnd 2 none]
def wsX5_grounded : List Cond := .code yX5_grounded cX5_grounded 2 (some .boolean) :: ([.fieldLink RX5 12 "KindParser" "grammar" "LKindParser$Grammar;", .methodLink RX5 110 yX2_hasGround, .instanceMethod yX2_hasGround, .selects RX2 yX2_hasGround yX2_hasGround, .initialized RX2, .code yX2_hasGround cX2_hasGround 2 (some .boolean), .fieldLink RX2 28 "KindParser$Grammar" "ground" "[Z", .static yX5_isKind, .initialized RX5, .code yX5_isKind cX5_isKind 1 (some .boolean)] ++ wsX50 ++ wsX20)
def wsX5_count : List Cond := .code yX5_count cX5_count 2 (some .int) :: ([.fieldLink RX5 12 "KindParser" "grammar" "LKindParser$Grammar;", .fieldLink RX5 58 "KindParser" "repaired" "I", .fieldLink RX5 61 "KindParser" "spent" "I"] ++ wsX50 ++ wsX20)
def wsX6_init_r1 : List Cond := [Cond.methodLink RX6 1 objectInit, Cond.instanceMethod objectInit, Cond.code objectInit ⟨#[0xb1]⟩ 1 none, Cond.arrayClass .int, Cond.fieldLink RX6 7 "KindParserModel" "head" "[I", Cond.fieldLink RX6 13 "KindParserModel" "size" "[I", Cond.fieldLink RX6 16 "KindParserModel" "symbol" "[I", Cond.fieldLink RX6 19 "KindParserModel" "hint" "[I", Cond.arrayClass .boolean, Cond.fieldLink RX6 22 "KindParserModel" "in" "[Z", Cond.fieldLink RX6 26 "KindParserModel" "text" "[I", Cond.fieldLink RX6 29 "KindParserModel" "kept" "[I", Cond.fieldLink RX6 32 "KindParserModel" "tokenAt" "[I", Cond.fieldLink RX6 35 "KindParserModel" "tokenLength" "[I", Cond.fieldLink RX6 38 "KindParserModel" "sign" "[I", Cond.fieldLink RX6 41 "KindParserModel" "commentAt" "[I", Cond.fieldLink RX6 44 "KindParserModel" "commentLength" "[I", Cond.fieldLink RX6 47 "KindParserModel" "firstComment" "[I", Cond.arrayClass .long, Cond.fieldLink RX6 50 "KindParserModel" "best" "[J", Cond.fieldLink RX6 54 "KindParserModel" "row" "[J", Cond.fieldLink RX6 57 "KindParserModel" "cut" "[I", Cond.fieldLink RX6 60 "KindParserModel" "ruleOf" "[I", Cond.fieldLink RX6 63 "KindParserModel" "symbolOf" "[I"]
def wsX6_init_r2 : List Cond := [Cond.fieldLink RX6 66 "KindParserModel" "parent" "[I", Cond.fieldLink RX6 69 "KindParserModel" "place" "[I", Cond.fieldLink RX6 72 "KindParserModel" "from" "[I", Cond.fieldLink RX6 75 "KindParserModel" "to" "[I", Cond.fieldLink RX6 78 "KindParserModel" "cost" "[I", Cond.fieldLink RX6 81 "KindParserModel" "deep" "[I", Cond.fieldLink RX6 84 "KindParserModel" "waiting" "[I", Cond.fieldLink RX6 87 "KindParserModel" "wide" "[I", Cond.fieldLink RX6 90 "KindParserModel" "begins" "[I", Cond.fieldLink RX6 93 "KindParserModel" "started" "[Z", Cond.fieldLink RX6 96 "KindParserModel" "broken" "[Z", Cond.fieldLink RX6 99 "KindParserModel" "print" "[I"]
def wsX6_init : List Cond := .code yX6_init cX6_init 1 none :: ((wsX6_init_r1 ++ wsX6_init_r2) ++ wsX60)
def wsX6_thrown : List Cond := .code yX6_thrown cX6_thrown 1 (some .int) :: ([.fieldLink RX6 102 "KindParserModel" "thrown" "I"] ++ wsX60)
def wsX6_fail : List Cond := .code yX6_fail cX6_fail 2 (some .int) :: ([.fieldLink RX6 102 "KindParserModel" "thrown" "I"] ++ wsX60)
def wsX6_below : List Cond := .code yX6_below cX6_below 2 (some .boolean) :: ([])
def wsX6_rule : List Cond := .code yX6_rule cX6_rule 10 (some .int) :: ([.fieldLink RX6 102 "KindParserModel" "thrown" "I", .fieldLink RX6 110 "KindParserModel" "rules" "I", .fieldLink RX6 16 "KindParserModel" "symbol" "[I", .fieldLink RX6 19 "KindParserModel" "hint" "[I", .fieldLink RX6 7 "KindParserModel" "head" "[I", .fieldLink RX6 13 "KindParserModel" "size" "[I", .fieldLink RX6 22 "KindParserModel" "in" "[Z", .fieldLink RX6 113 "KindParserModel" "tree" "Z", .methodLink RX6 106 yX6_fail, .instanceMethod yX6_fail, .selects RX6 yX6_fail yX6_fail, .initialized RX6, .code yX6_fail cX6_fail 2 (some .int)] ++ wsX60)
def wsX6_write : List Cond := .code yX6_write cX6_write 6 (some .int) :: ([.fieldLink RX6 102 "KindParserModel" "thrown" "I", .constantLong RX6 117 (255), .fieldLink RX6 119 "KindParserModel" "length" "I", .fieldLink RX6 26 "KindParserModel" "text" "[I", .methodLink RX6 106 yX6_fail, .instanceMethod yX6_fail, .selects RX6 yX6_fail yX6_fail, .initialized RX6, .code yX6_fail cX6_fail 2 (some .int)] ++ wsX60)
def wsX6_erase : List Cond := .code yX6_erase cX6_erase 2 (some .int) :: ([.fieldLink RX6 102 "KindParserModel" "thrown" "I", .fieldLink RX6 119 "KindParserModel" "length" "I"] ++ wsX60)
def wsX6_ground : List Cond := .code yX6_ground cX6_ground 6 (some .int) :: ([.fieldLink RX6 110 "KindParserModel" "rules" "I", .fieldLink RX6 13 "KindParserModel" "size" "[I", .fieldLink RX6 16 "KindParserModel" "symbol" "[I", .fieldLink RX6 7 "KindParserModel" "head" "[I"] ++ wsX60)
def wsX6_grounded : List Cond := .code yX6_grounded cX6_grounded 2 (some .boolean) :: ([.fieldLink RX6 102 "KindParserModel" "thrown" "I", .methodLink RX6 122 yX6_ground, .instanceMethod yX6_ground, .selects RX6 yX6_ground yX6_ground, .initialized RX6, .code yX6_ground cX6_ground 6 (some .int), .fieldLink RX6 110 "KindParserModel" "rules" "I", .fieldLink RX6 13 "KindParserModel" "size" "[I", .fieldLink RX6 16 "KindParserModel" "symbol" "[I", .fieldLink RX6 7 "KindParserModel" "head" "[I"] ++ wsX60)
def wsX6_commentEnd : List Cond := .code yX6_commentEnd cX6_commentEnd 3 (some .int) :: ([.fieldLink RX6 119 "KindParserModel" "length" "I", .fieldLink RX6 26 "KindParserModel" "text" "[I"] ++ wsX60)
def wsX6_tokenEnd : List Cond := .code yX6_tokenEnd cX6_tokenEnd 3 (some .int) :: ([.fieldLink RX6 26 "KindParserModel" "text" "[I", .fieldLink RX6 119 "KindParserModel" "length" "I"] ++ wsX60)
def wsX6_cutText : List Cond := .code yX6_cutText cX6_cutText 4 (some .boolean) :: ([.fieldLink RX6 126 "KindParserModel" "tokens" "I", .fieldLink RX6 129 "KindParserModel" "comments" "I", .fieldLink RX6 47 "KindParserModel" "firstComment" "[I", .fieldLink RX6 119 "KindParserModel" "length" "I", .fieldLink RX6 29 "KindParserModel" "kept" "[I", .fieldLink RX6 26 "KindParserModel" "text" "[I", .fieldLink RX6 41 "KindParserModel" "commentAt" "[I", .fieldLink RX6 44 "KindParserModel" "commentLength" "[I", .fieldLink RX6 32 "KindParserModel" "tokenAt" "[I", .fieldLink RX6 35 "KindParserModel" "tokenLength" "[I", .fieldLink RX6 38 "KindParserModel" "sign" "[I", .methodLink RX6 132 yX6_commentEnd, .instanceMethod yX6_commentEnd, .selects RX6 yX6_commentEnd yX6_commentEnd, .initialized RX6, .code yX6_commentEnd cX6_commentEnd 3 (some .int), .methodLink RX6 135 yX6_tokenEnd, .instanceMethod yX6_tokenEnd, .selects RX6 yX6_tokenEnd yX6_tokenEnd, .code yX6_tokenEnd cX6_tokenEnd 3 (some .int)] ++ wsX60)
def wsX6_sum : List Cond := .code yX6_sum cX6_sum 4 (some .long) :: ([.constantLong RX6 138 (1152921504606846976)])
def wsX6_price : List Cond := .code yX6_price cX6_price 4 (some .long) :: ([.fieldLink RX6 50 "KindParserModel" "best" "[J", .constantLong RX6 140 (16777216), .fieldLink RX6 38 "KindParserModel" "sign" "[I"] ++ wsX60)
def wsX6_fill : List Cond := .code yX6_fill cX6_fill 11 none :: ([.fieldLink RX6 126 "KindParserModel" "tokens" "I", .fieldLink RX6 54 "KindParserModel" "row" "[J", .constantLong RX6 138 (1152921504606846976), .fieldLink RX6 13 "KindParserModel" "size" "[I", .fieldLink RX6 16 "KindParserModel" "symbol" "[I", .methodLink RX6 142 yX6_price, .instanceMethod yX6_price, .selects RX6 yX6_price yX6_price, .initialized RX6, .code yX6_price cX6_price 4 (some .long), .fieldLink RX6 50 "KindParserModel" "best" "[J", .constantLong RX6 140 (16777216), .fieldLink RX6 38 "KindParserModel" "sign" "[I", .methodLink RX6 146 yX6_sum, .static yX6_sum, .code yX6_sum cX6_sum 4 (some .long)] ++ wsX60)
def wsX6_prices : List Cond := .code yX6_prices cX6_prices 8 none :: ([.fieldLink RX6 50 "KindParserModel" "best" "[J", .constantLong RX6 138 (1152921504606846976), .fieldLink RX6 126 "KindParserModel" "tokens" "I", .fieldLink RX6 110 "KindParserModel" "rules" "I", .fieldLink RX6 7 "KindParserModel" "head" "[I", .fieldLink RX6 54 "KindParserModel" "row" "[J", .fieldLink RX6 13 "KindParserModel" "size" "[I", .methodLink RX6 150 yX6_fill, .instanceMethod yX6_fill, .selects RX6 yX6_fill yX6_fill, .initialized RX6, .code yX6_fill cX6_fill 11 none, .fieldLink RX6 16 "KindParserModel" "symbol" "[I", .methodLink RX6 142 yX6_price, .instanceMethod yX6_price, .selects RX6 yX6_price yX6_price, .code yX6_price cX6_price 4 (some .long), .constantLong RX6 140 (16777216), .fieldLink RX6 38 "KindParserModel" "sign" "[I", .methodLink RX6 146 yX6_sum, .static yX6_sum, .code yX6_sum cX6_sum 4 (some .long)] ++ wsX60)
def wsX6_push : List Cond := .code yX6_push cX6_push 6 none :: ([.fieldLink RX6 84 "KindParserModel" "waiting" "[I", .fieldLink RX6 154 "KindParserModel" "open" "I"] ++ wsX60)
def wsX6_choose : List Cond := .code yX6_choose cX6_choose 9 (some .int) :: ([.fieldLink RX6 50 "KindParserModel" "best" "[J", .fieldLink RX6 110 "KindParserModel" "rules" "I", .fieldLink RX6 7 "KindParserModel" "head" "[I", .fieldLink RX6 54 "KindParserModel" "row" "[J", .fieldLink RX6 13 "KindParserModel" "size" "[I", .fieldLink RX6 57 "KindParserModel" "cut" "[I", .fieldLink RX6 16 "KindParserModel" "symbol" "[I", .methodLink RX6 150 yX6_fill, .instanceMethod yX6_fill, .selects RX6 yX6_fill yX6_fill, .initialized RX6, .code yX6_fill cX6_fill 11 none, .fieldLink RX6 126 "KindParserModel" "tokens" "I", .constantLong RX6 138 (1152921504606846976), .methodLink RX6 142 yX6_price, .instanceMethod yX6_price, .selects RX6 yX6_price yX6_price, .code yX6_price cX6_price 4 (some .long), .constantLong RX6 140 (16777216), .fieldLink RX6 38 "KindParserModel" "sign" "[I", .methodLink RX6 146 yX6_sum, .static yX6_sum, .code yX6_sum cX6_sum 4 (some .long)] ++ wsX60)
def wsX6_grow_r1 : List Cond := [Cond.fieldLink RX6 157 "KindParserModel" "parts" "I", Cond.fieldLink RX6 154 "KindParserModel" "open" "I", Cond.fieldLink RX6 160 "KindParserModel" "end" "I", Cond.fieldLink RX6 84 "KindParserModel" "waiting" "[I", Cond.fieldLink RX6 63 "KindParserModel" "symbolOf" "[I", Cond.fieldLink RX6 72 "KindParserModel" "from" "[I", Cond.fieldLink RX6 75 "KindParserModel" "to" "[I", Cond.fieldLink RX6 66 "KindParserModel" "parent" "[I", Cond.fieldLink RX6 69 "KindParserModel" "place" "[I", Cond.fieldLink RX6 78 "KindParserModel" "cost" "[I", Cond.fieldLink RX6 81 "KindParserModel" "deep" "[I", Cond.fieldLink RX6 60 "KindParserModel" "ruleOf" "[I", Cond.fieldLink RX6 13 "KindParserModel" "size" "[I", Cond.fieldLink RX6 16 "KindParserModel" "symbol" "[I", Cond.fieldLink RX6 57 "KindParserModel" "cut" "[I", Cond.methodLink RX6 163 yX6_push, Cond.instanceMethod yX6_push, Cond.selects RX6 yX6_push yX6_push, Cond.initialized RX6, Cond.code yX6_push cX6_push 6 none, Cond.methodLink RX6 142 yX6_price, Cond.instanceMethod yX6_price, Cond.selects RX6 yX6_price yX6_price, Cond.code yX6_price cX6_price 4 (some .long)]
def wsX6_grow_r2 : List Cond := [Cond.fieldLink RX6 50 "KindParserModel" "best" "[J", Cond.constantLong RX6 140 (16777216), Cond.fieldLink RX6 38 "KindParserModel" "sign" "[I", Cond.methodLink RX6 167 yX6_choose, Cond.instanceMethod yX6_choose, Cond.selects RX6 yX6_choose yX6_choose, Cond.code yX6_choose cX6_choose 9 (some .int), Cond.fieldLink RX6 110 "KindParserModel" "rules" "I", Cond.fieldLink RX6 7 "KindParserModel" "head" "[I", Cond.fieldLink RX6 54 "KindParserModel" "row" "[J", Cond.methodLink RX6 150 yX6_fill, Cond.instanceMethod yX6_fill, Cond.selects RX6 yX6_fill yX6_fill, Cond.code yX6_fill cX6_fill 11 none, Cond.fieldLink RX6 126 "KindParserModel" "tokens" "I", Cond.constantLong RX6 138 (1152921504606846976), Cond.methodLink RX6 146 yX6_sum, Cond.static yX6_sum, Cond.code yX6_sum cX6_sum 4 (some .long)]
def wsX6_grow : List Cond := .code yX6_grow cX6_grow 5 (some .boolean) :: ((wsX6_grow_r1 ++ wsX6_grow_r2) ++ wsX60)
def wsX6_repair_r1 : List Cond := [Cond.fieldLink RX6 102 "KindParserModel" "thrown" "I", Cond.fieldLink RX6 113 "KindParserModel" "tree" "Z", Cond.fieldLink RX6 160 "KindParserModel" "end" "I", Cond.fieldLink RX6 126 "KindParserModel" "tokens" "I", Cond.fieldLink RX6 50 "KindParserModel" "best" "[J", Cond.constantLong RX6 140 (16777216), Cond.fieldLink RX6 78 "KindParserModel" "cost" "[I", Cond.fieldLink RX6 181 "KindParserModel" "repaired" "I", Cond.fieldLink RX6 184 "KindParserModel" "paid" "I", Cond.methodLink RX6 122 yX6_ground, Cond.instanceMethod yX6_ground, Cond.selects RX6 yX6_ground yX6_ground, Cond.initialized RX6, Cond.code yX6_ground cX6_ground 6 (some .int), Cond.fieldLink RX6 110 "KindParserModel" "rules" "I", Cond.fieldLink RX6 13 "KindParserModel" "size" "[I", Cond.fieldLink RX6 16 "KindParserModel" "symbol" "[I", Cond.fieldLink RX6 7 "KindParserModel" "head" "[I", Cond.methodLink RX6 106 yX6_fail, Cond.instanceMethod yX6_fail, Cond.selects RX6 yX6_fail yX6_fail, Cond.code yX6_fail cX6_fail 2 (some .int), Cond.methodLink RX6 171 yX6_cutText, Cond.instanceMethod yX6_cutText]
def wsX6_repair_r2 : List Cond := [Cond.selects RX6 yX6_cutText yX6_cutText, Cond.code yX6_cutText cX6_cutText 4 (some .boolean), Cond.fieldLink RX6 129 "KindParserModel" "comments" "I", Cond.fieldLink RX6 47 "KindParserModel" "firstComment" "[I", Cond.fieldLink RX6 119 "KindParserModel" "length" "I", Cond.fieldLink RX6 29 "KindParserModel" "kept" "[I", Cond.fieldLink RX6 26 "KindParserModel" "text" "[I", Cond.fieldLink RX6 41 "KindParserModel" "commentAt" "[I", Cond.fieldLink RX6 44 "KindParserModel" "commentLength" "[I", Cond.fieldLink RX6 32 "KindParserModel" "tokenAt" "[I", Cond.fieldLink RX6 35 "KindParserModel" "tokenLength" "[I", Cond.fieldLink RX6 38 "KindParserModel" "sign" "[I", Cond.methodLink RX6 132 yX6_commentEnd, Cond.instanceMethod yX6_commentEnd, Cond.selects RX6 yX6_commentEnd yX6_commentEnd, Cond.code yX6_commentEnd cX6_commentEnd 3 (some .int), Cond.methodLink RX6 135 yX6_tokenEnd, Cond.instanceMethod yX6_tokenEnd, Cond.selects RX6 yX6_tokenEnd yX6_tokenEnd, Cond.code yX6_tokenEnd cX6_tokenEnd 3 (some .int), Cond.methodLink RX6 175 yX6_prices, Cond.instanceMethod yX6_prices, Cond.selects RX6 yX6_prices yX6_prices, Cond.code yX6_prices cX6_prices 8 none]
def wsX6_repair_r3 : List Cond := [Cond.constantLong RX6 138 (1152921504606846976), Cond.fieldLink RX6 54 "KindParserModel" "row" "[J", Cond.methodLink RX6 150 yX6_fill, Cond.instanceMethod yX6_fill, Cond.selects RX6 yX6_fill yX6_fill, Cond.code yX6_fill cX6_fill 11 none, Cond.methodLink RX6 142 yX6_price, Cond.instanceMethod yX6_price, Cond.selects RX6 yX6_price yX6_price, Cond.code yX6_price cX6_price 4 (some .long), Cond.methodLink RX6 146 yX6_sum, Cond.static yX6_sum, Cond.code yX6_sum cX6_sum 4 (some .long), Cond.methodLink RX6 178 yX6_grow, Cond.instanceMethod yX6_grow, Cond.selects RX6 yX6_grow yX6_grow, Cond.code yX6_grow cX6_grow 5 (some .boolean), Cond.fieldLink RX6 157 "KindParserModel" "parts" "I", Cond.fieldLink RX6 154 "KindParserModel" "open" "I", Cond.fieldLink RX6 84 "KindParserModel" "waiting" "[I", Cond.fieldLink RX6 63 "KindParserModel" "symbolOf" "[I", Cond.fieldLink RX6 72 "KindParserModel" "from" "[I", Cond.fieldLink RX6 75 "KindParserModel" "to" "[I", Cond.fieldLink RX6 66 "KindParserModel" "parent" "[I"]
def wsX6_repair_r4 : List Cond := [Cond.fieldLink RX6 69 "KindParserModel" "place" "[I", Cond.fieldLink RX6 81 "KindParserModel" "deep" "[I", Cond.fieldLink RX6 60 "KindParserModel" "ruleOf" "[I", Cond.fieldLink RX6 57 "KindParserModel" "cut" "[I", Cond.methodLink RX6 163 yX6_push, Cond.instanceMethod yX6_push, Cond.selects RX6 yX6_push yX6_push, Cond.code yX6_push cX6_push 6 none, Cond.methodLink RX6 167 yX6_choose, Cond.instanceMethod yX6_choose, Cond.selects RX6 yX6_choose yX6_choose, Cond.code yX6_choose cX6_choose 9 (some .int)]
def wsX6_repair : List Cond := .code yX6_repair cX6_repair 6 (some .int) :: ((wsX6_repair_r1 ++ (wsX6_repair_r2 ++ (wsX6_repair_r3 ++ wsX6_repair_r4))) ++ wsX60)
def wsX6_put : List Cond := .code yX6_put cX6_put 2 none :: ([.fieldLink RX6 99 "KindParserModel" "print" "[I", .fieldLink RX6 187 "KindParserModel" "printed" "I", .fieldLink RX6 190 "KindParserModel" "column" "I"] ++ wsX60)
def wsX6_putTokens : List Cond := .code yX6_putTokens cX6_putTokens 9 none :: ([.fieldLink RX6 47 "KindParserModel" "firstComment" "[I", .fieldLink RX6 44 "KindParserModel" "commentLength" "[I", .fieldLink RX6 29 "KindParserModel" "kept" "[I", .fieldLink RX6 41 "KindParserModel" "commentAt" "[I", .fieldLink RX6 35 "KindParserModel" "tokenLength" "[I", .fieldLink RX6 32 "KindParserModel" "tokenAt" "[I", .methodLink RX6 193 yX6_put, .instanceMethod yX6_put, .selects RX6 yX6_put yX6_put, .initialized RX6, .code yX6_put cX6_put 2 none, .fieldLink RX6 99 "KindParserModel" "print" "[I", .fieldLink RX6 187 "KindParserModel" "printed" "I", .fieldLink RX6 190 "KindParserModel" "column" "I"] ++ wsX60)
def wsX6_width : List Cond := .code yX6_width cX6_width 6 (some .int) :: ([.fieldLink RX6 47 "KindParserModel" "firstComment" "[I", .fieldLink RX6 44 "KindParserModel" "commentLength" "[I", .fieldLink RX6 35 "KindParserModel" "tokenLength" "[I"] ++ wsX60)
def wsX6_hintOf : List Cond := .code yX6_hintOf cX6_hintOf 2 (some .int) :: ([.fieldLink RX6 19 "KindParserModel" "hint" "[I", .fieldLink RX6 60 "KindParserModel" "ruleOf" "[I", .fieldLink RX6 66 "KindParserModel" "parent" "[I", .fieldLink RX6 69 "KindParserModel" "place" "[I"] ++ wsX60)
def wsX6_digit : List Cond := .code yX6_digit cX6_digit 1 (some .boolean) :: ([])
def wsX6_measure_r1 : List Cond := [Cond.fieldLink RX6 157 "KindParserModel" "parts" "I", Cond.fieldLink RX6 93 "KindParserModel" "started" "[Z", Cond.fieldLink RX6 96 "KindParserModel" "broken" "[Z", Cond.fieldLink RX6 90 "KindParserModel" "begins" "[I", Cond.fieldLink RX6 87 "KindParserModel" "wide" "[I", Cond.fieldLink RX6 63 "KindParserModel" "symbolOf" "[I", Cond.fieldLink RX6 75 "KindParserModel" "to" "[I", Cond.fieldLink RX6 72 "KindParserModel" "from" "[I", Cond.fieldLink RX6 47 "KindParserModel" "firstComment" "[I", Cond.fieldLink RX6 29 "KindParserModel" "kept" "[I", Cond.fieldLink RX6 32 "KindParserModel" "tokenAt" "[I", Cond.fieldLink RX6 66 "KindParserModel" "parent" "[I", Cond.methodLink RX6 197 yX6_width, Cond.instanceMethod yX6_width, Cond.selects RX6 yX6_width yX6_width, Cond.initialized RX6, Cond.code yX6_width cX6_width 6 (some .int), Cond.fieldLink RX6 44 "KindParserModel" "commentLength" "[I", Cond.fieldLink RX6 35 "KindParserModel" "tokenLength" "[I", Cond.methodLink RX6 201 yX6_hintOf, Cond.instanceMethod yX6_hintOf, Cond.selects RX6 yX6_hintOf yX6_hintOf, Cond.code yX6_hintOf cX6_hintOf 2 (some .int), Cond.fieldLink RX6 19 "KindParserModel" "hint" "[I"]
def wsX6_measure_r2 : List Cond := [Cond.fieldLink RX6 60 "KindParserModel" "ruleOf" "[I", Cond.fieldLink RX6 69 "KindParserModel" "place" "[I", Cond.methodLink RX6 204 yX6_digit, Cond.static yX6_digit, Cond.code yX6_digit cX6_digit 1 (some .boolean)]
def wsX6_measure : List Cond := .code yX6_measure cX6_measure 4 none :: ((wsX6_measure_r1 ++ wsX6_measure_r2) ++ wsX60)
def wsX6_joint : List Cond := .code yX6_joint cX6_joint 3 (some .int) :: ([.fieldLink RX6 66 "KindParserModel" "parent" "[I", .fieldLink RX6 93 "KindParserModel" "started" "[Z"] ++ wsX60)
def wsX6_between : List Cond := .code yX6_between cX6_between 6 none :: ([.fieldLink RX6 66 "KindParserModel" "parent" "[I", .fieldLink RX6 96 "KindParserModel" "broken" "[Z", .fieldLink RX6 22 "KindParserModel" "in" "[Z", .fieldLink RX6 60 "KindParserModel" "ruleOf" "[I", .fieldLink RX6 190 "KindParserModel" "column" "I", .fieldLink RX6 90 "KindParserModel" "begins" "[I", .methodLink RX6 201 yX6_hintOf, .instanceMethod yX6_hintOf, .selects RX6 yX6_hintOf yX6_hintOf, .initialized RX6, .code yX6_hintOf cX6_hintOf 2 (some .int), .fieldLink RX6 19 "KindParserModel" "hint" "[I", .fieldLink RX6 69 "KindParserModel" "place" "[I", .methodLink RX6 193 yX6_put, .instanceMethod yX6_put, .selects RX6 yX6_put yX6_put, .code yX6_put cX6_put 2 none, .fieldLink RX6 99 "KindParserModel" "print" "[I", .fieldLink RX6 187 "KindParserModel" "printed" "I", .methodLink RX6 204 yX6_digit, .static yX6_digit, .code yX6_digit cX6_digit 1 (some .boolean)] ++ wsX60)
def wsX6_start : List Cond := .code yX6_start cX6_start 7 none :: ([.fieldLink RX6 66 "KindParserModel" "parent" "[I", .fieldLink RX6 96 "KindParserModel" "broken" "[Z", .fieldLink RX6 93 "KindParserModel" "started" "[Z", .fieldLink RX6 87 "KindParserModel" "wide" "[I", .fieldLink RX6 190 "KindParserModel" "column" "I"] ++ wsX60)
def wsX6_print_r1 : List Cond := [Cond.fieldLink RX6 102 "KindParserModel" "thrown" "I", Cond.fieldLink RX6 113 "KindParserModel" "tree" "Z", Cond.fieldLink RX6 187 "KindParserModel" "printed" "I", Cond.fieldLink RX6 190 "KindParserModel" "column" "I", Cond.fieldLink RX6 157 "KindParserModel" "parts" "I", Cond.fieldLink RX6 63 "KindParserModel" "symbolOf" "[I", Cond.fieldLink RX6 87 "KindParserModel" "wide" "[I", Cond.fieldLink RX6 72 "KindParserModel" "from" "[I", Cond.fieldLink RX6 75 "KindParserModel" "to" "[I", Cond.fieldLink RX6 160 "KindParserModel" "end" "I", Cond.fieldLink RX6 126 "KindParserModel" "tokens" "I", Cond.fieldLink RX6 47 "KindParserModel" "firstComment" "[I", Cond.methodLink RX6 106 yX6_fail, Cond.instanceMethod yX6_fail, Cond.selects RX6 yX6_fail yX6_fail, Cond.initialized RX6, Cond.code yX6_fail cX6_fail 2 (some .int), Cond.methodLink RX6 208 yX6_measure, Cond.instanceMethod yX6_measure, Cond.selects RX6 yX6_measure yX6_measure, Cond.code yX6_measure cX6_measure 4 none, Cond.fieldLink RX6 93 "KindParserModel" "started" "[Z", Cond.fieldLink RX6 96 "KindParserModel" "broken" "[Z", Cond.fieldLink RX6 90 "KindParserModel" "begins" "[I"]
def wsX6_print_r2 : List Cond := [Cond.fieldLink RX6 29 "KindParserModel" "kept" "[I", Cond.fieldLink RX6 32 "KindParserModel" "tokenAt" "[I", Cond.fieldLink RX6 66 "KindParserModel" "parent" "[I", Cond.methodLink RX6 197 yX6_width, Cond.instanceMethod yX6_width, Cond.selects RX6 yX6_width yX6_width, Cond.code yX6_width cX6_width 6 (some .int), Cond.fieldLink RX6 44 "KindParserModel" "commentLength" "[I", Cond.fieldLink RX6 35 "KindParserModel" "tokenLength" "[I", Cond.methodLink RX6 201 yX6_hintOf, Cond.instanceMethod yX6_hintOf, Cond.selects RX6 yX6_hintOf yX6_hintOf, Cond.code yX6_hintOf cX6_hintOf 2 (some .int), Cond.fieldLink RX6 19 "KindParserModel" "hint" "[I", Cond.fieldLink RX6 60 "KindParserModel" "ruleOf" "[I", Cond.fieldLink RX6 69 "KindParserModel" "place" "[I", Cond.methodLink RX6 204 yX6_digit, Cond.static yX6_digit, Cond.code yX6_digit cX6_digit 1 (some .boolean), Cond.methodLink RX6 211 yX6_joint, Cond.instanceMethod yX6_joint, Cond.selects RX6 yX6_joint yX6_joint, Cond.code yX6_joint cX6_joint 3 (some .int), Cond.methodLink RX6 214 yX6_between]
def wsX6_print_r3 : List Cond := [Cond.instanceMethod yX6_between, Cond.selects RX6 yX6_between yX6_between, Cond.code yX6_between cX6_between 6 none, Cond.fieldLink RX6 22 "KindParserModel" "in" "[Z", Cond.methodLink RX6 193 yX6_put, Cond.instanceMethod yX6_put, Cond.selects RX6 yX6_put yX6_put, Cond.code yX6_put cX6_put 2 none, Cond.fieldLink RX6 99 "KindParserModel" "print" "[I", Cond.methodLink RX6 217 yX6_start, Cond.instanceMethod yX6_start, Cond.selects RX6 yX6_start yX6_start, Cond.code yX6_start cX6_start 7 none, Cond.methodLink RX6 221 yX6_putTokens, Cond.instanceMethod yX6_putTokens, Cond.selects RX6 yX6_putTokens yX6_putTokens, Cond.code yX6_putTokens cX6_putTokens 9 none, Cond.fieldLink RX6 41 "KindParserModel" "commentAt" "[I"]
def wsX6_print : List Cond := .code yX6_print cX6_print 4 (some .int) :: ((wsX6_print_r1 ++ (wsX6_print_r2 ++ wsX6_print_r3)) ++ wsX60)
def wsX6_tokens : List Cond := .code yX6_tokens cX6_tokens 1 (some .int) :: ([.fieldLink RX6 102 "KindParserModel" "thrown" "I", .fieldLink RX6 113 "KindParserModel" "tree" "Z", .fieldLink RX6 126 "KindParserModel" "tokens" "I"] ++ wsX60)
def wsX6_token : List Cond := .code yX6_token cX6_token 3 (some .int) :: ([.fieldLink RX6 102 "KindParserModel" "thrown" "I", .fieldLink RX6 113 "KindParserModel" "tree" "Z", .fieldLink RX6 126 "KindParserModel" "tokens" "I", .fieldLink RX6 47 "KindParserModel" "firstComment" "[I", .fieldLink RX6 38 "KindParserModel" "sign" "[I", .fieldLink RX6 35 "KindParserModel" "tokenLength" "[I", .methodLink RX6 225 yX6_below, .static yX6_below, .initialized RX6, .code yX6_below cX6_below 2 (some .boolean), .methodLink RX6 106 yX6_fail, .instanceMethod yX6_fail, .selects RX6 yX6_fail yX6_fail, .code yX6_fail cX6_fail 2 (some .int)] ++ wsX60)
def wsX6_parts : List Cond := .code yX6_parts cX6_parts 1 (some .int) :: ([.fieldLink RX6 102 "KindParserModel" "thrown" "I", .fieldLink RX6 113 "KindParserModel" "tree" "Z", .fieldLink RX6 157 "KindParserModel" "parts" "I"] ++ wsX60)
def wsX6_part : List Cond := .code yX6_part cX6_part 3 (some .int) :: ([.fieldLink RX6 102 "KindParserModel" "thrown" "I", .fieldLink RX6 113 "KindParserModel" "tree" "Z", .fieldLink RX6 157 "KindParserModel" "parts" "I", .fieldLink RX6 60 "KindParserModel" "ruleOf" "[I", .fieldLink RX6 63 "KindParserModel" "symbolOf" "[I", .fieldLink RX6 66 "KindParserModel" "parent" "[I", .fieldLink RX6 72 "KindParserModel" "from" "[I", .fieldLink RX6 75 "KindParserModel" "to" "[I", .fieldLink RX6 78 "KindParserModel" "cost" "[I", .fieldLink RX6 13 "KindParserModel" "size" "[I", .fieldLink RX6 38 "KindParserModel" "sign" "[I", .methodLink RX6 225 yX6_below, .static yX6_below, .initialized RX6, .code yX6_below cX6_below 2 (some .boolean), .methodLink RX6 106 yX6_fail, .instanceMethod yX6_fail, .selects RX6 yX6_fail yX6_fail, .code yX6_fail cX6_fail 2 (some .int)] ++ wsX60)
def wsX6_rest : List Cond := .code yX6_rest cX6_rest 1 (some .int) :: ([.fieldLink RX6 102 "KindParserModel" "thrown" "I", .fieldLink RX6 113 "KindParserModel" "tree" "Z", .fieldLink RX6 126 "KindParserModel" "tokens" "I", .fieldLink RX6 160 "KindParserModel" "end" "I", .methodLink RX6 106 yX6_fail, .instanceMethod yX6_fail, .selects RX6 yX6_fail yX6_fail, .initialized RX6, .code yX6_fail cX6_fail 2 (some .int)] ++ wsX60)
def wsX6_character : List Cond := .code yX6_character cX6_character 2 (some .int) :: ([.fieldLink RX6 102 "KindParserModel" "thrown" "I", .fieldLink RX6 187 "KindParserModel" "printed" "I", .fieldLink RX6 99 "KindParserModel" "print" "[I", .methodLink RX6 225 yX6_below, .static yX6_below, .initialized RX6, .code yX6_below cX6_below 2 (some .boolean), .methodLink RX6 106 yX6_fail, .instanceMethod yX6_fail, .selects RX6 yX6_fail yX6_fail, .code yX6_fail cX6_fail 2 (some .int)] ++ wsX60)
def wsX6_count : List Cond := .code yX6_count cX6_count 2 (some .int) :: ([.fieldLink RX6 102 "KindParserModel" "thrown" "I", .fieldLink RX6 110 "KindParserModel" "rules" "I", .fieldLink RX6 181 "KindParserModel" "repaired" "I", .fieldLink RX6 184 "KindParserModel" "paid" "I"] ++ wsX60)
def wsJ9_max_7cf53 : List Cond := .code yJ9_max_7cf53 cJ9_max_7cf53 2 (some .int) :: ([])
def wsJ9_min_7cf53 : List Cond := .code yJ9_min_7cf53 cJ9_min_7cf53 2 (some .int) :: ([])
def wsJ9_min_f86c9 : List Cond := .code yJ9_min_f86c9 cJ9_min_f86c9 4 (some .long) :: ([])
theorem inJ9 : ∀ w ∈ wsJ90, w ∈ lw_tbl := by decide +kernel
theorem inJ0 : ∀ w ∈ wsJ00, w ∈ lw_tbl := by decide +kernel
theorem inJ10 : ∀ w ∈ wsJ100, w ∈ lw_tbl := by decide +kernel
set_option maxRecDepth 20000 in
theorem ggX0_fill_X0_priceLeaves : GoodIn wsX0_fill wsX0_priceLeaves := goodIn_r _ [6, 1, 7, 8, 9, 10, 5, 11, 12, 13, 14, 15, 16, 17, 18, 63, 64, 65, 66, 67, 68, 69, 70, 71, 72, 73, 74, 75, 76, 77, 78] (by decide +kernel) (by decide +kernel)
set_option maxRecDepth 20000 in
theorem gX0_fill_X0_priceLeaves : GoodIn wsX0_fill (wsV RX0 33 RX0 yX0_priceLeaves wsX0_priceLeaves) := goodIn_app (goodIn_of _ (by decide +kernel)) ggX0_fill_X0_priceLeaves
set_option maxRecDepth 20000 in
theorem ggX0_fill_X0_forget : GoodIn wsX0_fill wsX0_forget := goodIn_r _ [22, 7, 23, 24, 9, 10, 5, 11, 25, 26, 27, 63, 64, 65, 66, 67, 68] (by decide +kernel) (by decide +kernel)
set_option maxRecDepth 20000 in
theorem gX0_fill_X0_forget : GoodIn wsX0_fill (wsV RX0 42 RX0 yX0_forget wsX0_forget) := goodIn_app (goodIn_of _ (by decide +kernel)) ggX0_fill_X0_forget
set_option maxRecDepth 20000 in
theorem ggX0_fill_X0_joinInside : GoodIn wsX0_fill wsX0_joinInside := goodIn_r _ [31, 32, 33, 23, 34, 35, 5, 36, 37, 38, 39, 40, 41, 42, 43, 44, 45, 46, 7, 47, 48, 49, 50, 9, 10, 11, 63, 64, 65, 66, 67, 68, 79, 80, 81, 82, 83, 84, 85] (by decide +kernel) (by decide +kernel)
set_option maxRecDepth 20000 in
theorem gX0_fill_X0_joinInside : GoodIn wsX0_fill (wsV RX0 46 RX0 yX0_joinInside wsX0_joinInside) := goodIn_app (goodIn_of _ (by decide +kernel)) ggX0_fill_X0_joinInside
set_option maxRecDepth 20000 in
theorem ggX0_fill_X0_settle : GoodIn wsX0_fill wsX0_settle := goodIn_r _ [54, 32, 7, 9, 10, 5, 11, 55, 56, 57, 58, 33, 47, 48, 49, 50, 34, 35, 36, 37, 38, 39, 40, 41, 42, 63, 64, 65, 66, 67, 68, 79, 80, 81, 82, 83, 84, 85] (by decide +kernel) (by decide +kernel)
set_option maxRecDepth 20000 in
theorem gX0_fill_X0_settle : GoodIn wsX0_fill (wsV RX0 49 RX0 yX0_settle wsX0_settle) := goodIn_app (goodIn_of _ (by decide +kernel)) ggX0_fill_X0_settle
set_option maxRecDepth 20000 in
theorem ggX0_fill_X0_choose : GoodIn wsX0_fill wsX0_choose := goodIn_r _ [62, 32, 33, 23, 7, 24, 34, 35, 5, 36, 9, 10, 11, 25, 26, 27, 63, 64, 65, 66, 67, 68, 79, 80, 81, 82, 83, 84, 85] (by decide +kernel) (by decide +kernel)
set_option maxRecDepth 20000 in
theorem gX0_fill_X0_choose : GoodIn wsX0_fill (wsV RX0 52 RX0 yX0_choose wsX0_choose) := goodIn_app (goodIn_of _ (by decide +kernel)) ggX0_fill_X0_choose
set_option maxRecDepth 20000 in
theorem ggX0_priceLeaves_X0_spot : GoodIn wsX0_priceLeaves wsX0_spot := goodIn_r _ [7] (by decide +kernel) (by decide +kernel)
set_option maxRecDepth 20000 in
theorem gX0_priceLeaves_X0_spot : GoodIn wsX0_priceLeaves (va_wsS RX0 55 yX0_spot wsX0_spot) := goodIn_app (goodIn_of _ (by decide +kernel)) ggX0_priceLeaves_X0_spot
set_option maxRecDepth 20000 in
theorem ggX0_priceLeaves_X1_signOf : GoodIn wsX0_priceLeaves wsX1_signOf := goodIn_r _ [12, 13, 14, 21, 22, 23, 24, 25, 26, 27, 28, 29, 30] (by decide +kernel) (by decide +kernel)
set_option maxRecDepth 20000 in
theorem gX0_priceLeaves_X1_signOf : GoodIn wsX0_priceLeaves (wsV RX0 61 RX1 yX1_signOf wsX1_signOf) := goodIn_app (goodIn_of _ (by decide +kernel)) ggX0_priceLeaves_X1_signOf
set_option maxRecDepth 20000 in
theorem ggX0_forget_X0_spot : GoodIn wsX0_forget wsX0_spot := goodIn_r _ [7] (by decide +kernel) (by decide +kernel)
set_option maxRecDepth 20000 in
theorem gX0_forget_X0_spot : GoodIn wsX0_forget (va_wsS RX0 55 yX0_spot wsX0_spot) := goodIn_app (goodIn_of _ (by decide +kernel)) ggX0_forget_X0_spot
set_option maxRecDepth 20000 in
theorem ggX0_forget_X0_choiceSpot : GoodIn wsX0_forget wsX0_choiceSpot := goodIn_r _ [10] (by decide +kernel) (by decide +kernel)
set_option maxRecDepth 20000 in
theorem gX0_forget_X0_choiceSpot : GoodIn wsX0_forget (va_wsS RX0 67 yX0_choiceSpot wsX0_choiceSpot) := goodIn_app (goodIn_of _ (by decide +kernel)) ggX0_forget_X0_choiceSpot
set_option maxRecDepth 20000 in
theorem ggX0_joinInside_X0_begunRow : GoodIn wsX0_joinInside wsX0_begunRow := goodIn_r _ [7] (by decide +kernel) (by decide +kernel)
set_option maxRecDepth 20000 in
theorem gX0_joinInside_X0_begunRow : GoodIn wsX0_joinInside (va_wsS RX0 73 yX0_begunRow wsX0_begunRow) := goodIn_app (goodIn_of _ (by decide +kernel)) ggX0_joinInside_X0_begunRow
set_option maxRecDepth 20000 in
theorem ggX0_joinInside_X2_symbolOf : GoodIn wsX0_joinInside wsX2_symbolOf := goodIn_r _ [12, 13, 32, 33, 34, 35, 36, 37, 38] (by decide +kernel) (by decide +kernel)
set_option maxRecDepth 20000 in
theorem gX0_joinInside_X2_symbolOf : GoodIn wsX0_joinInside (wsV RX0 81 RX2 yX2_symbolOf wsX2_symbolOf) := goodIn_app (goodIn_of _ (by decide +kernel)) ggX0_joinInside_X2_symbolOf
set_option maxRecDepth 20000 in
theorem ggX0_joinInside_X0_leastInside : GoodIn wsX0_joinInside wsX0_leastInside := goodIn_r _ [17, 3, 2, 18, 19, 20, 21, 22, 23, 24, 6, 25, 26, 27, 28, 29, 30, 31] (by decide +kernel) (by decide +kernel)
set_option maxRecDepth 20000 in
theorem gX0_joinInside_X0_leastInside : GoodIn wsX0_joinInside (wsV RX0 84 RX0 yX0_leastInside wsX0_leastInside) := goodIn_app (goodIn_of _ (by decide +kernel)) ggX0_joinInside_X0_leastInside
set_option maxRecDepth 20000 in
theorem ggX0_leastInside_X0_spot : GoodIn wsX0_leastInside wsX0_spot := goodIn_r _ [11] (by decide +kernel) (by decide +kernel)
set_option maxRecDepth 20000 in
theorem gX0_leastInside_X0_spot : GoodIn wsX0_leastInside (va_wsS RX0 55 yX0_spot wsX0_spot) := goodIn_app (goodIn_of _ (by decide +kernel)) ggX0_leastInside_X0_spot
set_option maxRecDepth 20000 in
theorem ggX0_settle_X0_spot : GoodIn wsX0_settle wsX0_spot := goodIn_r _ [6] (by decide +kernel) (by decide +kernel)
set_option maxRecDepth 20000 in
theorem gX0_settle_X0_spot : GoodIn wsX0_settle (va_wsS RX0 55 yX0_spot wsX0_spot) := goodIn_app (goodIn_of _ (by decide +kernel)) ggX0_settle_X0_spot
set_option maxRecDepth 20000 in
theorem ggX0_settle_X0_extend : GoodIn wsX0_settle wsX0_extend := goodIn_r _ [10, 1, 11, 2, 12, 13, 14, 15, 16, 17, 5, 18, 19, 20, 21, 22, 23, 24, 3, 4, 6, 25, 26, 27, 28, 29, 30, 31, 32, 33, 34, 35, 36, 37] (by decide +kernel) (by decide +kernel)
set_option maxRecDepth 20000 in
theorem gX0_settle_X0_extend : GoodIn wsX0_settle (wsV RX0 97 RX0 yX0_extend wsX0_extend) := goodIn_app (goodIn_of _ (by decide +kernel)) ggX0_settle_X0_extend
set_option maxRecDepth 20000 in
theorem ggX0_extend_X0_begunRow : GoodIn wsX0_extend wsX0_begunRow := goodIn_r _ [11] (by decide +kernel) (by decide +kernel)
set_option maxRecDepth 20000 in
theorem gX0_extend_X0_begunRow : GoodIn wsX0_extend (va_wsS RX0 73 yX0_begunRow wsX0_begunRow) := goodIn_app (goodIn_of _ (by decide +kernel)) ggX0_extend_X0_begunRow
set_option maxRecDepth 20000 in
theorem ggX0_extend_X2_symbolOf : GoodIn wsX0_extend wsX2_symbolOf := goodIn_r _ [16, 17, 27, 28, 29, 30, 31, 32, 33] (by decide +kernel) (by decide +kernel)
set_option maxRecDepth 20000 in
theorem gX0_extend_X2_symbolOf : GoodIn wsX0_extend (wsV RX0 81 RX2 yX2_symbolOf wsX2_symbolOf) := goodIn_app (goodIn_of _ (by decide +kernel)) ggX0_extend_X2_symbolOf
set_option maxRecDepth 20000 in
theorem ggX0_extend_X0_spot : GoodIn wsX0_extend wsX0_spot := goodIn_r _ [20] (by decide +kernel) (by decide +kernel)
set_option maxRecDepth 20000 in
theorem gX0_extend_X0_spot : GoodIn wsX0_extend (va_wsS RX0 55 yX0_spot wsX0_spot) := goodIn_app (goodIn_of _ (by decide +kernel)) ggX0_extend_X0_spot
set_option maxRecDepth 20000 in
theorem ggX0_choose_X0_begunRow : GoodIn wsX0_choose wsX0_begunRow := goodIn_r _ [9] (by decide +kernel) (by decide +kernel)
set_option maxRecDepth 20000 in
theorem gX0_choose_X0_begunRow : GoodIn wsX0_choose (va_wsS RX0 73 yX0_begunRow wsX0_begunRow) := goodIn_app (goodIn_of _ (by decide +kernel)) ggX0_choose_X0_begunRow
set_option maxRecDepth 20000 in
theorem ggX0_choose_X0_spot : GoodIn wsX0_choose wsX0_spot := goodIn_r _ [12] (by decide +kernel) (by decide +kernel)
set_option maxRecDepth 20000 in
theorem gX0_choose_X0_spot : GoodIn wsX0_choose (va_wsS RX0 55 yX0_spot wsX0_spot) := goodIn_app (goodIn_of _ (by decide +kernel)) ggX0_choose_X0_spot
set_option maxRecDepth 20000 in
theorem ggX0_choose_X0_choiceSpot : GoodIn wsX0_choose wsX0_choiceSpot := goodIn_r _ [15] (by decide +kernel) (by decide +kernel)
set_option maxRecDepth 20000 in
theorem gX0_choose_X0_choiceSpot : GoodIn wsX0_choose (va_wsS RX0 67 yX0_choiceSpot wsX0_choiceSpot) := goodIn_app (goodIn_of _ (by decide +kernel)) ggX0_choose_X0_choiceSpot
set_option maxRecDepth 20000 in
theorem ggX0_ruleFor_X0_choiceSpot : GoodIn wsX0_ruleFor wsX0_choiceSpot := goodIn_r _ [5] (by decide +kernel) (by decide +kernel)
set_option maxRecDepth 20000 in
theorem gX0_ruleFor_X0_choiceSpot : GoodIn wsX0_ruleFor (va_wsS RX0 67 yX0_choiceSpot wsX0_choiceSpot) := goodIn_app (goodIn_of _ (by decide +kernel)) ggX0_ruleFor_X0_choiceSpot
set_option maxRecDepth 20000 in
theorem ggX0_costOf_X0_spot : GoodIn wsX0_costOf wsX0_spot := goodIn_r _ [5] (by decide +kernel) (by decide +kernel)
set_option maxRecDepth 20000 in
theorem gX0_costOf_X0_spot : GoodIn wsX0_costOf (va_wsS RX0 55 yX0_spot wsX0_spot) := goodIn_app (goodIn_of _ (by decide +kernel)) ggX0_costOf_X0_spot
set_option maxRecDepth 20000 in
theorem ggX0_treeEnd_X0_spot : GoodIn wsX0_treeEnd wsX0_spot := goodIn_r _ [7] (by decide +kernel) (by decide +kernel)
set_option maxRecDepth 20000 in
theorem gX0_treeEnd_X0_spot : GoodIn wsX0_treeEnd (va_wsS RX0 55 yX0_spot wsX0_spot) := goodIn_app (goodIn_of _ (by decide +kernel)) ggX0_treeEnd_X0_spot
set_option maxRecDepth 20000 in
theorem ggX0_split_X0_trace : GoodIn wsX0_split wsX0_trace := goodIn_r _ [8, 2, 9, 1, 3, 10, 11, 12, 13, 14, 15, 16, 17, 18, 19, 20, 21, 7, 22, 23, 24, 25, 26, 27, 28, 29, 30, 31, 32, 33, 34, 35] (by decide +kernel) (by decide +kernel)
set_option maxRecDepth 20000 in
theorem gX0_split_X0_trace : GoodIn wsX0_split (wsV RX0 101 RX0 yX0_trace wsX0_trace) := goodIn_app (goodIn_of _ (by decide +kernel)) ggX0_split_X0_trace
set_option maxRecDepth 20000 in
theorem ggX0_split_X2_symbolOf : GoodIn wsX0_split wsX2_symbolOf := goodIn_r _ [18, 19, 29, 30, 31, 32, 33, 34, 35] (by decide +kernel) (by decide +kernel)
set_option maxRecDepth 20000 in
theorem gX0_split_X2_symbolOf : GoodIn wsX0_split (wsV RX0 81 RX2 yX2_symbolOf wsX2_symbolOf) := goodIn_app (goodIn_of _ (by decide +kernel)) ggX0_split_X2_symbolOf
set_option maxRecDepth 20000 in
theorem ggX0_split_X0_spot : GoodIn wsX0_split wsX0_spot := goodIn_r _ [22] (by decide +kernel) (by decide +kernel)
set_option maxRecDepth 20000 in
theorem gX0_split_X0_spot : GoodIn wsX0_split (va_wsS RX0 55 yX0_spot wsX0_spot) := goodIn_app (goodIn_of _ (by decide +kernel)) ggX0_split_X0_spot
set_option maxRecDepth 20000 in
theorem ggX0_trace_X2_symbolOf : GoodIn wsX0_trace wsX2_symbolOf := goodIn_r _ [13, 14, 25, 26, 27, 28, 29, 30, 31] (by decide +kernel) (by decide +kernel)
set_option maxRecDepth 20000 in
theorem gX0_trace_X2_symbolOf : GoodIn wsX0_trace (wsV RX0 81 RX2 yX2_symbolOf wsX2_symbolOf) := goodIn_app (goodIn_of _ (by decide +kernel)) ggX0_trace_X2_symbolOf
set_option maxRecDepth 20000 in
theorem ggX0_trace_X0_spot : GoodIn wsX0_trace wsX0_spot := goodIn_r _ [18] (by decide +kernel) (by decide +kernel)
set_option maxRecDepth 20000 in
theorem gX0_trace_X0_spot : GoodIn wsX0_trace (va_wsS RX0 55 yX0_spot wsX0_spot) := goodIn_app (goodIn_of _ (by decide +kernel)) ggX0_trace_X0_spot
set_option maxRecDepth 20000 in
theorem ggX1_read_X1_take : GoodIn wsX1_read wsX1_take := goodIn_r _ [21, 9, 14, 22, 23, 24, 16, 15, 25, 26, 27, 20, 28, 8, 29, 30, 31, 32, 33, 34, 35, 36, 37, 38, 39, 40, 41, 42, 43, 44, 45, 46, 47, 48, 49, 50, 51] (by decide +kernel) (by decide +kernel)
set_option maxRecDepth 20000 in
theorem gX1_read_X1_take : GoodIn wsX1_read (wsV RX1 59 RX1 yX1_take wsX1_take) := goodIn_app (goodIn_of _ (by decide +kernel)) ggX1_read_X1_take
set_option maxRecDepth 20000 in
theorem ggX1_take_X1_closing : GoodIn wsX1_take wsX1_closing := goodIn_r _ [12, 13, 1, 27, 28, 29, 30, 31, 32, 33, 34, 35, 36] (by decide +kernel) (by decide +kernel)
set_option maxRecDepth 20000 in
theorem gX1_take_X1_closing : GoodIn wsX1_take (wsV RX1 63 RX1 yX1_closing wsX1_closing) := goodIn_app (goodIn_of _ (by decide +kernel)) ggX1_take_X1_closing
set_option maxRecDepth 20000 in
theorem ggX1_take_X1_takeComment : GoodIn wsX1_take wsX1_takeComment := goodIn_r _ [17, 7, 18, 19, 27, 28, 29, 30, 31, 32, 33, 34, 35, 36] (by decide +kernel) (by decide +kernel)
set_option maxRecDepth 20000 in
theorem gX1_take_X1_takeComment : GoodIn wsX1_take (wsV RX1 66 RX1 yX1_takeComment wsX1_takeComment) := goodIn_app (goodIn_of _ (by decide +kernel)) ggX1_take_X1_takeComment
set_option maxRecDepth 20000 in
theorem ggX1_take_X1_behindDigits : GoodIn wsX1_take wsX1_behindDigits := goodIn_r _ [23, 13, 1, 24, 25, 26, 27, 28, 29, 30, 31, 32, 33, 34, 35, 36] (by decide +kernel) (by decide +kernel)
set_option maxRecDepth 20000 in
theorem gX1_take_X1_behindDigits : GoodIn wsX1_take (wsV RX1 69 RX1 yX1_behindDigits wsX1_behindDigits) := goodIn_app (goodIn_of _ (by decide +kernel)) ggX1_take_X1_behindDigits
set_option maxRecDepth 20000 in
theorem ggX1_behindDigits_X5_isDigit : GoodIn wsX1_behindDigits wsX5_isDigit := goodIn_r _ [5] (by decide +kernel) (by decide +kernel)
set_option maxRecDepth 20000 in
theorem gX1_behindDigits_X5_isDigit_n72 : GoodIn wsX1_behindDigits (wsX5_isDigit) := ggX1_behindDigits_X5_isDigit
set_option maxRecDepth 20000 in
theorem ggX1_beginsWithDigit_X1_commentsOf : GoodIn wsX1_beginsWithDigit wsX1_commentsOf := goodIn_r _ [8, 1, 9, 13, 14, 15, 16, 17, 18, 19, 20, 21, 22] (by decide +kernel) (by decide +kernel)
set_option maxRecDepth 20000 in
theorem gX1_beginsWithDigit_X1_commentsOf : GoodIn wsX1_beginsWithDigit (wsV RX1 76 RX1 yX1_commentsOf wsX1_commentsOf) := goodIn_app (goodIn_of _ (by decide +kernel)) ggX1_beginsWithDigit_X1_commentsOf
set_option maxRecDepth 20000 in
theorem ggX1_beginsWithDigit_X5_isDigit : GoodIn wsX1_beginsWithDigit wsX5_isDigit := goodIn_r _ [12] (by decide +kernel) (by decide +kernel)
set_option maxRecDepth 20000 in
theorem gX1_beginsWithDigit_X5_isDigit_n72 : GoodIn wsX1_beginsWithDigit (wsX5_isDigit) := ggX1_beginsWithDigit_X5_isDigit
set_option maxRecDepth 20000 in
theorem ggX1_widthOf_X1_lengthOf : GoodIn wsX1_widthOf wsX1_lengthOf := goodIn_r _ [8, 9, 10, 15, 16, 17, 18, 19, 20, 21, 22, 23, 24] (by decide +kernel) (by decide +kernel)
set_option maxRecDepth 20000 in
theorem gX1_widthOf_X1_lengthOf : GoodIn wsX1_widthOf (wsV RX1 79 RX1 yX1_lengthOf wsX1_lengthOf) := goodIn_app (goodIn_of _ (by decide +kernel)) ggX1_widthOf_X1_lengthOf
set_option maxRecDepth 20000 in
theorem ggX1_widthOf_X1_commentsOf : GoodIn wsX1_widthOf wsX1_commentsOf := goodIn_r _ [14, 9, 1, 15, 16, 17, 18, 19, 20, 21, 22, 23, 24] (by decide +kernel) (by decide +kernel)
set_option maxRecDepth 20000 in
theorem gX1_widthOf_X1_commentsOf : GoodIn wsX1_widthOf (wsV RX1 76 RX1 yX1_commentsOf wsX1_commentsOf) := goodIn_app (goodIn_of _ (by decide +kernel)) ggX1_widthOf_X1_commentsOf
set_option maxRecDepth 20000 in
theorem ggX2_add_X2_symbolsIn : GoodIn wsX2_add wsX2_symbolsIn := goodIn_r _ [10, 11] (by decide +kernel) (by decide +kernel)
set_option maxRecDepth 20000 in
theorem gX2_add_X2_symbolsIn : GoodIn wsX2_add (va_wsS RX2 36 yX2_symbolsIn wsX2_symbolsIn) := goodIn_app (goodIn_of _ (by decide +kernel)) ggX2_add_X2_symbolsIn
set_option maxRecDepth 20000 in
theorem ggX2_add_X2_findGround : GoodIn wsX2_add wsX2_findGround := goodIn_r _ [15, 1, 2, 16, 17, 18, 19, 9, 20, 21, 22, 23, 24, 25, 26, 27, 3, 28, 29, 30, 31, 5, 32, 33, 34, 35, 36, 37, 38] (by decide +kernel) (by decide +kernel)
set_option maxRecDepth 20000 in
theorem gX2_add_X2_findGround : GoodIn wsX2_add (wsV RX2 40 RX2 yX2_findGround wsX2_findGround) := goodIn_app (goodIn_of _ (by decide +kernel)) ggX2_add_X2_findGround
set_option maxRecDepth 20000 in
theorem ggX2_hasGround_X5_isKind : GoodIn wsX2_hasGround wsX5_isKind := goodIn_r _ [4] (by decide +kernel) (by decide +kernel)
set_option maxRecDepth 20000 in
theorem gX2_hasGround_X5_isKind_n43 : GoodIn wsX2_hasGround (wsX5_isKind) := ggX2_hasGround_X5_isKind
set_option maxRecDepth 20000 in
theorem ggX2_findGround_X2_hasGround : GoodIn wsX2_findGround wsX2_hasGround := goodIn_r _ [8, 3, 9, 10, 11, 22, 23, 24, 25, 26, 27, 28] (by decide +kernel) (by decide +kernel)
set_option maxRecDepth 20000 in
theorem gX2_findGround_X2_hasGround : GoodIn wsX2_findGround (wsV RX2 47 RX2 yX2_hasGround wsX2_hasGround) := goodIn_app (goodIn_of _ (by decide +kernel)) ggX2_findGround_X2_hasGround
set_option maxRecDepth 20000 in
theorem ggX2_findGround_X2_standsOnGround : GoodIn wsX2_findGround wsX2_standsOnGround := goodIn_r _ [15, 16, 17, 18, 19, 7, 20, 21, 9, 10, 11, 4, 5, 6, 8, 3, 22, 23, 24, 25, 26, 27, 28] (by decide +kernel) (by decide +kernel)
set_option maxRecDepth 20000 in
theorem gX2_findGround_X2_standsOnGround : GoodIn wsX2_findGround (wsV RX2 50 RX2 yX2_standsOnGround wsX2_standsOnGround) := goodIn_app (goodIn_of _ (by decide +kernel)) ggX2_findGround_X2_standsOnGround
set_option maxRecDepth 20000 in
theorem ggX2_standsOnGround_X2_symbolOf : GoodIn wsX2_standsOnGround wsX2_symbolOf := goodIn_r _ [6, 7, 16, 17, 18, 19, 20, 21, 22] (by decide +kernel) (by decide +kernel)
set_option maxRecDepth 20000 in
theorem gX2_standsOnGround_X2_symbolOf : GoodIn wsX2_standsOnGround (wsV RX2 53 RX2 yX2_symbolOf wsX2_symbolOf) := goodIn_app (goodIn_of _ (by decide +kernel)) ggX2_standsOnGround_X2_symbolOf
set_option maxRecDepth 20000 in
theorem ggX2_standsOnGround_X5_isKind : GoodIn wsX2_standsOnGround wsX5_isKind := goodIn_r _ [10] (by decide +kernel) (by decide +kernel)
set_option maxRecDepth 20000 in
theorem gX2_standsOnGround_X5_isKind_n43 : GoodIn wsX2_standsOnGround (wsX5_isKind) := ggX2_standsOnGround_X5_isKind
set_option maxRecDepth 20000 in
theorem ggX2_standsOnGround_X2_hasGround : GoodIn wsX2_standsOnGround wsX2_hasGround := goodIn_r _ [14, 15, 8, 9, 10, 16, 17, 18, 19, 20, 21, 22] (by decide +kernel) (by decide +kernel)
set_option maxRecDepth 20000 in
theorem gX2_standsOnGround_X2_hasGround : GoodIn wsX2_standsOnGround (wsV RX2 47 RX2 yX2_hasGround wsX2_hasGround) := goodIn_app (goodIn_of _ (by decide +kernel)) ggX2_standsOnGround_X2_hasGround
set_option maxRecDepth 20000 in
theorem ggX3_layOut_X3_measure : GoodIn wsX3_layOut wsX3_measure := goodIn_r _ [8, 3, 9, 10, 11, 12, 13, 14, 15, 16, 17, 18, 19, 20, 21, 22, 7, 23, 24, 25, 26, 27, 28, 29, 30, 31, 32, 33, 34, 35, 36, 37, 38, 39, 40, 41, 42, 43, 44, 45, 46, 47, 48, 49, 50, 51, 52, 53, 54, 55, 56, 57, 58, 59, 60, 61, 62, 63, 64, 98, 99, 100, 101, 102, 103, 104, 105, 106, 107, 108, 109, 110, 111, 112, 113, 114, 115, 116, 117, 118, 119, 120, 121, 122, 123, 124, 125, 126, 127, 128, 129, 130] (by decide +kernel) (by decide +kernel)
set_option maxRecDepth 20000 in
theorem gX3_layOut_X3_measure : GoodIn wsX3_layOut (wsV RX3 45 RX3 yX3_measure wsX3_measure) := goodIn_app (goodIn_of _ (by decide +kernel)) ggX3_layOut_X3_measure
set_option maxRecDepth 20000 in
theorem ggX3_layOut_X4_cell : GoodIn wsX3_layOut wsX4_cell := goodIn_r _ [18, 19, 107, 108, 109, 110, 111, 112, 113, 114, 115, 116, 117, 118, 119, 120] (by decide +kernel) (by decide +kernel)
set_option maxRecDepth 20000 in
theorem gX3_layOut_X4_cell : GoodIn wsX3_layOut (wsV RX3 51 RX4 yX4_cell wsX4_cell) := goodIn_app (goodIn_of _ (by decide +kernel)) ggX3_layOut_X4_cell
set_option maxRecDepth 20000 in
theorem ggX3_layOut_X3_layPart : GoodIn wsX3_layOut wsX3_layPart := goodIn_r _ [68, 3, 69, 9, 2, 70, 71, 29, 16, 17, 13, 18, 19, 48, 49, 50, 7, 51, 72, 73, 74, 75, 76, 77, 78, 79, 1, 80, 52, 53, 54, 55, 28, 56, 57, 58, 33, 59, 42, 60, 61, 44, 45, 46, 47, 35, 62, 63, 64, 10, 11, 12, 14, 15, 81, 82, 83, 84, 85, 86, 87, 88, 89, 90, 91, 92, 93, 98, 99, 100, 101, 102, 103, 104, 105, 106, 131, 132, 133, 134, 135, 136, 137, 107, 108, 109, 110, 111, 112, 113, 114, 115, 116, 117, 118, 119, 120, 121, 122, 123, 124, 125, 126, 127, 128, 129, 130] (by decide +kernel) (by decide +kernel)
set_option maxRecDepth 20000 in
theorem gX3_layOut_X3_layPart : GoodIn wsX3_layOut (wsV RX3 55 RX3 yX3_layPart wsX3_layPart) := goodIn_app (goodIn_of _ (by decide +kernel)) ggX3_layOut_X3_layPart
set_option maxRecDepth 20000 in
theorem ggX3_layOut_X3_layEnd : GoodIn wsX3_layOut wsX3_layEnd := goodIn_r _ [97, 28, 3, 1, 89, 45, 46, 33, 47, 42, 35, 76, 77, 78, 7, 79, 80, 2, 81, 82, 83, 84, 85, 86, 87, 88, 90, 91, 92, 93, 98, 99, 100, 101, 102, 103, 104, 105, 106, 121, 122, 123, 124, 125, 126, 127, 128, 129, 130, 107, 108, 109, 110, 111, 112, 113, 114, 115, 116, 117, 118, 119, 120] (by decide +kernel) (by decide +kernel)
set_option maxRecDepth 20000 in
theorem gX3_layOut_X3_layEnd : GoodIn wsX3_layOut (wsV RX3 59 RX3 yX3_layEnd wsX3_layEnd) := goodIn_app (goodIn_of _ (by decide +kernel)) ggX3_layOut_X3_layEnd
set_option maxRecDepth 20000 in
theorem ggX3_measure_X4_isLeaf : GoodIn wsX3_measure wsX4_isLeaf := goodIn_r _ [7, 8, 9, 10, 6, 11, 12, 68, 69, 70, 71, 72, 73, 74, 75, 76, 77, 78, 79, 80, 81] (by decide +kernel) (by decide +kernel)
set_option maxRecDepth 20000 in
theorem gX3_measure_X4_isLeaf : GoodIn wsX3_measure (wsV RX3 62 RX4 yX4_isLeaf wsX4_isLeaf) := goodIn_app (goodIn_of _ (by decide +kernel)) ggX3_measure_X4_isLeaf
set_option maxRecDepth 20000 in
theorem ggX3_measure_X3_leafWidth : GoodIn wsX3_measure wsX3_leafWidth := goodIn_r _ [17, 1, 18, 19, 20, 21, 22, 23, 9, 10, 6, 11, 12, 24, 25, 26, 27, 28, 29, 30, 31, 32, 33, 34, 35, 36, 37, 38, 39, 40, 41, 59, 60, 61, 62, 63, 64, 65, 66, 67, 68, 69, 70, 71, 72, 73, 74, 75, 76, 77, 78, 79, 80, 81, 82, 83, 84, 85, 86, 87, 88, 89, 90, 91] (by decide +kernel) (by decide +kernel)
set_option maxRecDepth 20000 in
theorem gX3_measure_X3_leafWidth : GoodIn wsX3_measure (wsV RX3 66 RX3 yX3_leafWidth wsX3_leafWidth) := goodIn_app (goodIn_of _ (by decide +kernel)) ggX3_measure_X3_leafWidth
set_option maxRecDepth 20000 in
theorem ggX3_measure_X4_cell : GoodIn wsX3_measure wsX4_cell := goodIn_r _ [11, 12, 68, 69, 70, 71, 72, 73, 74, 75, 76, 77, 78, 79, 80, 81] (by decide +kernel) (by decide +kernel)
set_option maxRecDepth 20000 in
theorem gX3_measure_X4_cell : GoodIn wsX3_measure (wsV RX3 51 RX4 yX4_cell wsX4_cell) := goodIn_app (goodIn_of _ (by decide +kernel)) ggX3_measure_X4_cell
set_option maxRecDepth 20000 in
theorem ggX3_measure_X3_hasGap : GoodIn wsX3_measure wsX3_hasGap := goodIn_r _ [45, 1, 23, 9, 10, 6, 11, 12, 59, 60, 61, 62, 63, 64, 65, 66, 67, 68, 69, 70, 71, 72, 73, 74, 75, 76, 77, 78, 79, 80, 81] (by decide +kernel) (by decide +kernel)
set_option maxRecDepth 20000 in
theorem gX3_measure_X3_hasGap : GoodIn wsX3_measure (wsV RX3 70 RX3 yX3_hasGap wsX3_hasGap) := goodIn_app (goodIn_of _ (by decide +kernel)) ggX3_measure_X3_hasGap
set_option maxRecDepth 20000 in
theorem ggX3_measure_X3_flatGap : GoodIn wsX3_measure wsX3_flatGap := goodIn_r _ [49, 1, 22, 23, 9, 10, 6, 11, 12, 50, 51, 52, 27, 53, 36, 54, 55, 38, 39, 40, 41, 29, 56, 57, 58, 59, 60, 61, 62, 63, 64, 65, 66, 67, 68, 69, 70, 71, 72, 73, 74, 75, 76, 77, 78, 79, 80, 81, 82, 83, 84, 85, 86, 87, 88, 89, 90, 91] (by decide +kernel) (by decide +kernel)
set_option maxRecDepth 20000 in
theorem gX3_measure_X3_flatGap : GoodIn wsX3_measure (wsV RX3 73 RX3 yX3_flatGap wsX3_flatGap) := goodIn_app (goodIn_of _ (by decide +kernel)) ggX3_measure_X3_flatGap
set_option maxRecDepth 20000 in
theorem ggX3_leafWidth_X4_cell : GoodIn wsX3_leafWidth wsX4_cell := goodIn_r _ [11, 12, 40, 41, 42, 43, 44, 45, 46, 47, 48, 49, 50, 51, 52, 53] (by decide +kernel) (by decide +kernel)
set_option maxRecDepth 20000 in
theorem gX3_leafWidth_X4_cell : GoodIn wsX3_leafWidth (wsV RX3 51 RX4 yX4_cell wsX4_cell) := goodIn_app (goodIn_of _ (by decide +kernel)) ggX3_leafWidth_X4_cell
set_option maxRecDepth 20000 in
theorem ggX3_leafWidth_X1_widthOf : GoodIn wsX3_leafWidth wsX1_widthOf := goodIn_r _ [17, 18, 19, 20, 21, 22, 23, 16, 24, 25, 26, 27, 28, 29, 30, 54, 55, 56, 57, 58, 59, 60, 61, 62, 63] (by decide +kernel) (by decide +kernel)
set_option maxRecDepth 20000 in
theorem gX3_leafWidth_X1_widthOf : GoodIn wsX3_leafWidth (wsV RX3 81 RX1 yX1_widthOf wsX1_widthOf) := goodIn_app (goodIn_of _ (by decide +kernel)) ggX3_leafWidth_X1_widthOf
set_option maxRecDepth 20000 in
theorem ggX3_hasGap_X4_cell : GoodIn wsX3_hasGap wsX4_cell := goodIn_r _ [6, 7, 17, 18, 19, 20, 21, 22, 23, 24, 25, 26, 27, 28, 29, 30] (by decide +kernel) (by decide +kernel)
set_option maxRecDepth 20000 in
theorem gX3_hasGap_X4_cell : GoodIn wsX3_hasGap (wsV RX3 51 RX4 yX4_cell wsX4_cell) := goodIn_app (goodIn_of _ (by decide +kernel)) ggX3_hasGap_X4_cell
set_option maxRecDepth 20000 in
theorem ggX3_flatGap_X4_cell : GoodIn wsX3_flatGap wsX4_cell := goodIn_r _ [7, 8, 34, 35, 36, 37, 38, 39, 40, 41, 42, 43, 44, 45, 46, 47] (by decide +kernel) (by decide +kernel)
set_option maxRecDepth 20000 in
theorem gX3_flatGap_X4_cell : GoodIn wsX3_flatGap (wsV RX3 51 RX4 yX4_cell wsX4_cell) := goodIn_app (goodIn_of _ (by decide +kernel)) ggX3_flatGap_X4_cell
set_option maxRecDepth 20000 in
theorem ggX3_flatGap_X1_beginsWithDigit : GoodIn wsX3_flatGap wsX1_beginsWithDigit := goodIn_r _ [13, 14, 15, 16, 17, 18, 19, 12, 20, 21, 22, 23, 24, 48, 49, 50, 51, 52, 53, 54, 55, 56, 57] (by decide +kernel) (by decide +kernel)
set_option maxRecDepth 20000 in
theorem gX3_flatGap_X1_beginsWithDigit : GoodIn wsX3_flatGap (wsV RX3 89 RX1 yX1_beginsWithDigit wsX1_beginsWithDigit) := goodIn_app (goodIn_of _ (by decide +kernel)) ggX3_flatGap_X1_beginsWithDigit
set_option maxRecDepth 20000 in
theorem ggX3_layPart_X4_cell : GoodIn wsX3_layPart wsX4_cell := goodIn_r _ [11, 12, 83, 84, 85, 86, 87, 88, 89, 90, 91, 92, 93, 94, 95, 96] (by decide +kernel) (by decide +kernel)
set_option maxRecDepth 20000 in
theorem gX3_layPart_X4_cell : GoodIn wsX3_layPart (wsV RX3 51 RX4 yX4_cell wsX4_cell) := goodIn_app (goodIn_of _ (by decide +kernel)) ggX3_layPart_X4_cell
set_option maxRecDepth 20000 in
theorem ggX3_layPart_X3_hasGap : GoodIn wsX3_layPart wsX3_hasGap := goodIn_r _ [17, 1, 7, 8, 9, 10, 11, 12, 67, 68, 69, 70, 71, 72, 73, 74, 75, 83, 84, 85, 86, 87, 88, 89, 90, 91, 92, 93, 94, 95, 96] (by decide +kernel) (by decide +kernel)
set_option maxRecDepth 20000 in
theorem gX3_layPart_X3_hasGap : GoodIn wsX3_layPart (wsV RX3 70 RX3 yX3_hasGap wsX3_hasGap) := goodIn_app (goodIn_of _ (by decide +kernel)) ggX3_layPart_X3_hasGap
set_option maxRecDepth 20000 in
theorem ggX3_layPart_X3_layGap : GoodIn wsX3_layPart wsX3_layGap := goodIn_r _ [21, 1, 2, 4, 5, 22, 23, 24, 16, 25, 26, 27, 28, 29, 30, 31, 32, 7, 8, 9, 10, 11, 12, 33, 34, 35, 36, 37, 38, 39, 40, 41, 42, 43, 44, 45, 46, 47, 48, 67, 68, 69, 70, 71, 72, 73, 74, 75, 83, 84, 85, 86, 87, 88, 89, 90, 91, 92, 93, 94, 95, 96, 97, 98, 99, 100, 101, 102, 103, 104, 105, 106] (by decide +kernel) (by decide +kernel)
set_option maxRecDepth 20000 in
theorem gX3_layPart_X3_layGap : GoodIn wsX3_layPart (wsV RX3 92 RX3 yX3_layGap wsX3_layGap) := goodIn_app (goodIn_of _ (by decide +kernel)) ggX3_layPart_X3_layGap
set_option maxRecDepth 20000 in
theorem ggX3_layPart_X4_isLeaf : GoodIn wsX3_layPart wsX4_isLeaf := goodIn_r _ [52, 53, 8, 9, 10, 11, 12, 83, 84, 85, 86, 87, 88, 89, 90, 91, 92, 93, 94, 95, 96] (by decide +kernel) (by decide +kernel)
set_option maxRecDepth 20000 in
theorem gX3_layPart_X4_isLeaf : GoodIn wsX3_layPart (wsV RX3 62 RX4 yX4_isLeaf wsX4_isLeaf) := goodIn_app (goodIn_of _ (by decide +kernel)) ggX3_layPart_X4_isLeaf
set_option maxRecDepth 20000 in
theorem ggX3_layPart_X3_layTokens : GoodIn wsX3_layPart wsX3_layTokens := goodIn_r _ [57, 32, 22, 23, 24, 16, 25, 26, 27, 4, 58, 59, 60, 61, 62, 42, 43, 36, 44, 38, 45, 63, 64, 65, 66, 67, 68, 69, 70, 71, 72, 73, 74, 75, 97, 98, 99, 100, 101, 102, 103, 104, 105, 106] (by decide +kernel) (by decide +kernel)
set_option maxRecDepth 20000 in
theorem gX3_layPart_X3_layTokens : GoodIn wsX3_layPart (wsV RX3 95 RX3 yX3_layTokens wsX3_layTokens) := goodIn_app (goodIn_of _ (by decide +kernel)) ggX3_layPart_X3_layTokens
set_option maxRecDepth 20000 in
theorem ggX3_layGap_X3_put : GoodIn wsX3_layGap wsX3_put := goodIn_r _ [9, 10, 11, 3, 39, 40, 41, 42, 43, 44, 45, 46, 47] (by decide +kernel) (by decide +kernel)
set_option maxRecDepth 20000 in
theorem gX3_layGap_X3_put : GoodIn wsX3_layGap (wsV RX3 103 RX3 yX3_put wsX3_put) := goodIn_app (goodIn_of _ (by decide +kernel)) ggX3_layGap_X3_put
set_option maxRecDepth 20000 in
theorem ggX3_layGap_X3_flatGap : GoodIn wsX3_layGap wsX3_flatGap := goodIn_r _ [15, 1, 16, 17, 18, 19, 20, 21, 22, 23, 24, 25, 26, 27, 28, 29, 30, 31, 32, 33, 34, 35, 36, 37, 38, 39, 40, 41, 42, 43, 44, 45, 46, 47, 48, 49, 50, 51, 52, 53, 54, 55, 56, 57, 58, 59, 60, 61, 62, 63, 64, 65, 66, 67, 68, 69, 70, 71] (by decide +kernel) (by decide +kernel)
set_option maxRecDepth 20000 in
theorem gX3_layGap_X3_flatGap : GoodIn wsX3_layGap (wsV RX3 73 RX3 yX3_flatGap wsX3_flatGap) := goodIn_app (goodIn_of _ (by decide +kernel)) ggX3_layGap_X3_flatGap
set_option maxRecDepth 20000 in
theorem ggX3_layTokens_X3_put : GoodIn wsX3_layTokens wsX3_put := goodIn_r _ [6, 7, 8, 9, 25, 26, 27, 28, 29, 30, 31, 32, 33] (by decide +kernel) (by decide +kernel)
set_option maxRecDepth 20000 in
theorem gX3_layTokens_X3_put : GoodIn wsX3_layTokens (wsV RX3 103 RX3 yX3_put wsX3_put) := goodIn_app (goodIn_of _ (by decide +kernel)) ggX3_layTokens_X3_put
set_option maxRecDepth 20000 in
theorem ggX3_layTokens_X3_layComments : GoodIn wsX3_layTokens wsX3_layComments := goodIn_r _ [13, 1, 14, 15, 16, 17, 18, 19, 20, 2, 3, 4, 5, 6, 7, 8, 9, 21, 22, 23, 24, 25, 26, 27, 28, 29, 30, 31, 32, 33, 34, 35, 36, 37, 38, 39, 40, 41, 42, 43] (by decide +kernel) (by decide +kernel)
set_option maxRecDepth 20000 in
theorem gX3_layTokens_X3_layComments : GoodIn wsX3_layTokens (wsV RX3 107 RX3 yX3_layComments wsX3_layComments) := goodIn_app (goodIn_of _ (by decide +kernel)) ggX3_layTokens_X3_layComments
set_option maxRecDepth 20000 in
theorem ggX3_layTokens_X1_commentsOf : GoodIn wsX3_layTokens wsX1_commentsOf := goodIn_r _ [18, 19, 20, 34, 35, 36, 37, 38, 39, 40, 41, 42, 43] (by decide +kernel) (by decide +kernel)
set_option maxRecDepth 20000 in
theorem gX3_layTokens_X1_commentsOf : GoodIn wsX3_layTokens (wsV RX3 110 RX1 yX1_commentsOf wsX1_commentsOf) := goodIn_app (goodIn_of _ (by decide +kernel)) ggX3_layTokens_X1_commentsOf
set_option maxRecDepth 20000 in
theorem ggX3_layTokens_X3_layText : GoodIn wsX3_layTokens wsX3_layText := goodIn_r _ [24, 1, 2, 3, 4, 5, 6, 7, 8, 9, 25, 26, 27, 28, 29, 30, 31, 32, 33, 34, 35, 36, 37, 38, 39, 40, 41, 42, 43] (by decide +kernel) (by decide +kernel)
set_option maxRecDepth 20000 in
theorem gX3_layTokens_X3_layText : GoodIn wsX3_layTokens (wsV RX3 119 RX3 yX3_layText wsX3_layText) := goodIn_app (goodIn_of _ (by decide +kernel)) ggX3_layTokens_X3_layText
set_option maxRecDepth 20000 in
theorem ggX3_layComments_X1_commentsOf : GoodIn wsX3_layComments wsX1_commentsOf := goodIn_r _ [6, 7, 8, 30, 31, 32, 33, 34, 35, 36, 37, 38, 39] (by decide +kernel) (by decide +kernel)
set_option maxRecDepth 20000 in
theorem gX3_layComments_X1_commentsOf : GoodIn wsX3_layComments (wsV RX3 110 RX1 yX1_commentsOf wsX1_commentsOf) := goodIn_app (goodIn_of _ (by decide +kernel)) ggX3_layComments_X1_commentsOf
set_option maxRecDepth 20000 in
theorem ggX3_layComments_X3_put : GoodIn wsX3_layComments wsX3_put := goodIn_r _ [13, 14, 15, 16, 21, 22, 23, 24, 25, 26, 27, 28, 29] (by decide +kernel) (by decide +kernel)
set_option maxRecDepth 20000 in
theorem gX3_layComments_X3_put : GoodIn wsX3_layComments (wsV RX3 103 RX3 yX3_put wsX3_put) := goodIn_app (goodIn_of _ (by decide +kernel)) ggX3_layComments_X3_put
set_option maxRecDepth 20000 in
theorem ggX3_layComments_X3_layText : GoodIn wsX3_layComments wsX3_layText := goodIn_r _ [20, 1, 9, 10, 11, 12, 13, 14, 15, 16, 21, 22, 23, 24, 25, 26, 27, 28, 29, 30, 31, 32, 33, 34, 35, 36, 37, 38, 39] (by decide +kernel) (by decide +kernel)
set_option maxRecDepth 20000 in
theorem gX3_layComments_X3_layText : GoodIn wsX3_layComments (wsV RX3 119 RX3 yX3_layText wsX3_layText) := goodIn_app (goodIn_of _ (by decide +kernel)) ggX3_layComments_X3_layText
set_option maxRecDepth 20000 in
theorem ggX3_layEnd_X1_commentsOf : GoodIn wsX3_layEnd wsX1_commentsOf := goodIn_r _ [8, 9, 10, 39, 40, 41, 42, 43, 44, 45, 46, 47, 48] (by decide +kernel) (by decide +kernel)
set_option maxRecDepth 20000 in
theorem gX3_layEnd_X1_commentsOf : GoodIn wsX3_layEnd (wsV RX3 110 RX1 yX1_commentsOf wsX1_commentsOf) := goodIn_app (goodIn_of _ (by decide +kernel)) ggX3_layEnd_X1_commentsOf
set_option maxRecDepth 20000 in
theorem ggX3_layEnd_X3_put : GoodIn wsX3_layEnd wsX3_put := goodIn_r _ [15, 3, 16, 17, 30, 31, 32, 33, 34, 35, 36, 37, 38] (by decide +kernel) (by decide +kernel)
set_option maxRecDepth 20000 in
theorem gX3_layEnd_X3_put : GoodIn wsX3_layEnd (wsV RX3 103 RX3 yX3_put wsX3_put) := goodIn_app (goodIn_of _ (by decide +kernel)) ggX3_layEnd_X3_put
set_option maxRecDepth 20000 in
theorem ggX3_layEnd_X3_layTokens : GoodIn wsX3_layEnd wsX3_layTokens := goodIn_r _ [21, 1, 11, 12, 13, 14, 15, 3, 16, 17, 22, 23, 24, 25, 4, 5, 6, 7, 8, 9, 10, 26, 27, 28, 29, 30, 31, 32, 33, 34, 35, 36, 37, 38, 39, 40, 41, 42, 43, 44, 45, 46, 47, 48] (by decide +kernel) (by decide +kernel)
set_option maxRecDepth 20000 in
theorem gX3_layEnd_X3_layTokens : GoodIn wsX3_layEnd (wsV RX3 95 RX3 yX3_layTokens wsX3_layTokens) := goodIn_app (goodIn_of _ (by decide +kernel)) ggX3_layEnd_X3_layTokens
set_option maxRecDepth 20000 in
theorem ggX3_layEnd_X3_layComments : GoodIn wsX3_layEnd wsX3_layComments := goodIn_r _ [25, 1, 4, 5, 6, 7, 8, 9, 10, 11, 12, 13, 14, 15, 3, 16, 17, 26, 27, 28, 29, 30, 31, 32, 33, 34, 35, 36, 37, 38, 39, 40, 41, 42, 43, 44, 45, 46, 47, 48] (by decide +kernel) (by decide +kernel)
set_option maxRecDepth 20000 in
theorem gX3_layEnd_X3_layComments : GoodIn wsX3_layEnd (wsV RX3 107 RX3 yX3_layComments wsX3_layComments) := goodIn_app (goodIn_of _ (by decide +kernel)) ggX3_layEnd_X3_layComments
set_option maxRecDepth 20000 in
theorem ggX3_layText_X3_put : GoodIn wsX3_layText wsX3_put := goodIn_r _ [6, 7, 8, 9, 10, 11, 12, 13, 14, 15, 16, 17, 18] (by decide +kernel) (by decide +kernel)
set_option maxRecDepth 20000 in
theorem gX3_layText_X3_put : GoodIn wsX3_layText (wsV RX3 103 RX3 yX3_put wsX3_put) := goodIn_app (goodIn_of _ (by decide +kernel)) ggX3_layText_X3_put
set_option maxRecDepth 20000 in
theorem ggX4_isLeaf_X4_cell : GoodIn wsX4_isLeaf wsX4_cell := goodIn_r _ [5, 6, 7, 8, 9, 10, 11, 12, 13, 14, 15, 16, 17, 18, 19, 20] (by decide +kernel) (by decide +kernel)
set_option maxRecDepth 20000 in
theorem gX4_isLeaf_X4_cell : GoodIn wsX4_isLeaf (wsV RX4 57 RX4 yX4_cell wsX4_cell) := goodIn_app (goodIn_of _ (by decide +kernel)) ggX4_isLeaf_X4_cell
set_option maxRecDepth 20000 in
theorem ggX4_grow_X0_treeEnd : GoodIn wsX4_grow wsX0_treeEnd := goodIn_r _ [8, 9, 10, 11, 12, 13, 7, 14, 106, 107, 108, 109, 110, 111, 112, 113, 114, 115, 116, 117, 118, 119, 120, 121] (by decide +kernel) (by decide +kernel)
set_option maxRecDepth 20000 in
theorem gX4_grow_X0_treeEnd : GoodIn wsX4_grow (wsV RX4 61 RX0 yX0_treeEnd wsX0_treeEnd) := goodIn_app (goodIn_of _ (by decide +kernel)) ggX4_grow_X0_treeEnd
set_option maxRecDepth 20000 in
theorem ggX4_grow_X4_drop : GoodIn wsX4_grow wsX4_drop := goodIn_r _ [19, 20, 3, 92, 93, 94, 95, 96, 97, 98, 99, 100, 101, 102, 103, 104, 105] (by decide +kernel) (by decide +kernel)
set_option maxRecDepth 20000 in
theorem gX4_grow_X4_drop : GoodIn wsX4_grow (wsV RX4 67 RX4 yX4_drop wsX4_drop) := goodIn_app (goodIn_of _ (by decide +kernel)) ggX4_grow_X4_drop
set_option maxRecDepth 20000 in
theorem ggX4_grow_X4_await : GoodIn wsX4_grow wsX4_await := goodIn_r _ [24, 20, 2, 25, 26, 27, 28, 29, 92, 93, 94, 95, 96, 97, 98, 99, 100, 101, 102, 103, 104, 105] (by decide +kernel) (by decide +kernel)
set_option maxRecDepth 20000 in
theorem gX4_grow_X4_await : GoodIn wsX4_grow (wsV RX4 70 RX4 yX4_await wsX4_await) := goodIn_app (goodIn_of _ (by decide +kernel)) ggX4_grow_X4_await
set_option maxRecDepth 20000 in
theorem ggX4_grow_X4_placeNext : GoodIn wsX4_grow wsX4_placeNext := goodIn_r _ [33, 2, 20, 25, 26, 27, 28, 34, 1, 35, 29, 36, 37, 38, 39, 7, 40, 11, 12, 13, 14, 41, 42, 43, 44, 45, 46, 18, 47, 48, 49, 50, 51, 52, 53, 54, 55, 56, 57, 58, 59, 60, 61, 62, 63, 64, 65, 66, 67, 9, 68, 69, 70, 71, 72, 73, 74, 75, 76, 77, 78, 79, 80, 81, 82, 83, 21, 22, 23, 24, 84, 85, 86, 87, 88, 89, 90, 91, 92, 93, 94, 95, 96, 97, 98, 99, 100, 101, 102, 103, 104, 105, 106, 107, 108, 109, 110, 111, 122, 123, 124, 125, 126, 127, 128] (by decide +kernel) (by decide +kernel)
set_option maxRecDepth 20000 in
theorem gX4_grow_X4_placeNext : GoodIn wsX4_grow (wsV RX4 74 RX4 yX4_placeNext wsX4_placeNext) := goodIn_app (goodIn_of _ (by decide +kernel)) ggX4_grow_X4_placeNext
set_option maxRecDepth 20000 in
theorem ggX4_placeNext_X0_costOf : GoodIn wsX4_placeNext wsX0_costOf := goodIn_r _ [16, 17, 18, 19, 15, 20, 92, 93, 94, 95, 96, 97] (by decide +kernel) (by decide +kernel)
set_option maxRecDepth 20000 in
theorem gX4_placeNext_X0_costOf : GoodIn wsX4_placeNext (wsV RX4 78 RX0 yX0_costOf wsX0_costOf) := goodIn_app (goodIn_of _ (by decide +kernel)) ggX4_placeNext_X0_costOf
set_option maxRecDepth 20000 in
theorem ggX4_placeNext_X5_isKind : GoodIn wsX4_placeNext wsX5_isKind := goodIn_r _ [23] (by decide +kernel) (by decide +kernel)
set_option maxRecDepth 20000 in
theorem gX4_placeNext_X5_isKind_n82 : GoodIn wsX4_placeNext (wsX5_isKind) := ggX4_placeNext_X5_isKind
set_option maxRecDepth 20000 in
theorem ggX4_placeNext_X4_placeNode : GoodIn wsX4_placeNext wsX4_placeNode := goodIn_r _ [28, 8, 11, 29, 7, 30, 31, 32, 33, 15, 34, 35, 36, 37, 38, 39, 40, 41, 42, 43, 44, 17, 45, 46, 47, 48, 49, 50, 51, 52, 53, 54, 55, 56, 57, 58, 59, 18, 19, 20, 60, 61, 62, 63, 64, 65, 66, 67, 68, 27, 69, 2, 1, 3, 4, 5, 6, 10, 78, 79, 80, 81, 82, 83, 84, 85, 86, 87, 88, 89, 90, 91, 98, 99, 100, 101, 102, 103, 104, 92, 93, 94, 95, 96, 97] (by decide +kernel) (by decide +kernel)
set_option maxRecDepth 20000 in
theorem gX4_placeNext_X4_placeNode : GoodIn wsX4_placeNext (wsV RX4 86 RX4 yX4_placeNode wsX4_placeNode) := goodIn_app (goodIn_of _ (by decide +kernel)) ggX4_placeNext_X4_placeNode
set_option maxRecDepth 20000 in
theorem ggX4_placeNext_X4_leafState : GoodIn wsX4_placeNext wsX4_leafState := goodIn_r _ [73, 74, 75, 76, 27, 77, 7, 78, 79, 80, 81, 82, 83, 84, 85, 86, 87, 88, 89, 90, 91] (by decide +kernel) (by decide +kernel)
set_option maxRecDepth 20000 in
theorem gX4_placeNext_X4_leafState : GoodIn wsX4_placeNext (wsV RX4 90 RX4 yX4_leafState wsX4_leafState) := goodIn_app (goodIn_of _ (by decide +kernel)) ggX4_placeNext_X4_leafState
set_option maxRecDepth 20000 in
theorem ggX4_leafState_X4_cell : GoodIn wsX4_leafState wsX4_cell := goodIn_r _ [5, 6, 7, 8, 9, 10, 11, 12, 13, 14, 15, 16, 17, 18, 19, 20] (by decide +kernel) (by decide +kernel)
set_option maxRecDepth 20000 in
theorem gX4_leafState_X4_cell : GoodIn wsX4_leafState (wsV RX4 57 RX4 yX4_cell wsX4_cell) := goodIn_app (goodIn_of _ (by decide +kernel)) ggX4_leafState_X4_cell
set_option maxRecDepth 20000 in
theorem ggX4_placeNode_X0_ruleFor : GoodIn wsX4_placeNode wsX0_ruleFor := goodIn_r _ [10, 11, 12, 13, 9, 14, 79, 80, 81, 82, 83, 84] (by decide +kernel) (by decide +kernel)
set_option maxRecDepth 20000 in
theorem gX4_placeNode_X0_ruleFor : GoodIn wsX4_placeNode (wsV RX4 94 RX0 yX0_ruleFor wsX0_ruleFor) := goodIn_app (goodIn_of _ (by decide +kernel)) ggX4_placeNode_X0_ruleFor
set_option maxRecDepth 20000 in
theorem ggX4_placeNode_X0_split : GoodIn wsX4_placeNode wsX0_split := goodIn_r _ [18, 19, 20, 21, 22, 23, 24, 9, 25, 26, 27, 28, 29, 30, 31, 32, 33, 34, 35, 36, 37, 38, 39, 79, 80, 81, 82, 83, 84, 72, 73, 74, 75, 76, 77, 78] (by decide +kernel) (by decide +kernel)
set_option maxRecDepth 20000 in
theorem gX4_placeNode_X0_split : GoodIn wsX4_placeNode (wsV RX4 102 RX0 yX0_split wsX0_split) := goodIn_app (goodIn_of _ (by decide +kernel)) ggX4_placeNode_X0_split
set_option maxRecDepth 20000 in
theorem ggX4_placeNode_X2_hintOf : GoodIn wsX4_placeNode wsX2_hintOf := goodIn_r _ [43, 44, 72, 73, 74, 75, 76, 77, 78] (by decide +kernel) (by decide +kernel)
set_option maxRecDepth 20000 in
theorem gX4_placeNode_X2_hintOf : GoodIn wsX4_placeNode (wsV RX4 106 RX2 yX2_hintOf wsX2_hintOf) := goodIn_app (goodIn_of _ (by decide +kernel)) ggX4_placeNode_X2_hintOf
set_option maxRecDepth 20000 in
theorem ggX4_placeNode_X2_symbolOf : GoodIn wsX4_placeNode wsX2_symbolOf := goodIn_r _ [35, 36, 72, 73, 74, 75, 76, 77, 78] (by decide +kernel) (by decide +kernel)
set_option maxRecDepth 20000 in
theorem gX4_placeNode_X2_symbolOf : GoodIn wsX4_placeNode (wsV RX4 109 RX2 yX2_symbolOf wsX2_symbolOf) := goodIn_app (goodIn_of _ (by decide +kernel)) ggX4_placeNode_X2_symbolOf
set_option maxRecDepth 20000 in
theorem ggX4_placeNode_X4_await : GoodIn wsX4_placeNode wsX4_await := goodIn_r _ [50, 51, 52, 53, 54, 55, 56, 57, 58, 59, 60, 61, 62, 63, 64, 65, 66, 67, 68, 69, 70, 71] (by decide +kernel) (by decide +kernel)
set_option maxRecDepth 20000 in
theorem gX4_placeNode_X4_await : GoodIn wsX4_placeNode (wsV RX4 70 RX4 yX4_await wsX4_await) := goodIn_app (goodIn_of _ (by decide +kernel)) ggX4_placeNode_X4_await
set_option maxRecDepth 20000 in
theorem ggX5_init_X2_init : GoodIn wsX5_init wsX2_init := goodIn_r _ [30, 31, 2, 3, 32, 33, 34, 35, 36, 37, 38, 39, 40, 96, 97, 98, 99, 100, 101, 102] (by decide +kernel) (by decide +kernel)
set_option maxRecDepth 20000 in
theorem gX5_init_X2_init_n11 : GoodIn wsX5_init (wsX2_init) := ggX5_init_X2_init
set_option maxRecDepth 20000 in
theorem ggX5_init_X1_init : GoodIn wsX5_init wsX1_init := goodIn_r _ [42, 43, 2, 3, 8, 44, 45, 32, 46, 47, 48, 49, 50, 51, 52, 53, 112, 113, 114, 115, 116, 117, 118, 119, 120, 121] (by decide +kernel) (by decide +kernel)
set_option maxRecDepth 20000 in
theorem gX5_init_X1_init_n26 : GoodIn wsX5_init (wsX1_init) := ggX5_init_X1_init
set_option maxRecDepth 20000 in
theorem ggX5_init_X0_init : GoodIn wsX5_init wsX0_init := goodIn_r _ [56, 57, 2, 3, 58, 59, 8, 60, 61, 62, 63, 64, 122, 123, 124, 125, 126, 127] (by decide +kernel) (by decide +kernel)
set_option maxRecDepth 20000 in
theorem gX5_init_X0_init : GoodIn wsX5_init (wsX0_init) := ggX5_init_X0_init
set_option maxRecDepth 20000 in
theorem ggX5_init_X4_init : GoodIn wsX5_init wsX4_init := goodIn_r _ [67, 68, 2, 3, 32, 69, 70, 71, 72, 73, 74, 75, 76, 77, 78, 79, 80, 81, 82, 128, 129, 130, 131, 132, 133, 134, 135, 136, 137, 138, 139, 140, 141] (by decide +kernel) (by decide +kernel)
set_option maxRecDepth 20000 in
theorem gX5_init_X4_init : GoodIn wsX5_init (wsX4_init) := ggX5_init_X4_init
set_option maxRecDepth 20000 in
theorem ggX5_init_X3_init : GoodIn wsX5_init wsX3_init := goodIn_r _ [85, 86, 2, 3, 8, 87, 32, 88, 37, 89, 90, 91, 92, 93, 94, 95, 142, 143, 144, 145, 146, 147, 148, 149, 150] (by decide +kernel) (by decide +kernel)
set_option maxRecDepth 20000 in
theorem gX5_init_X3_init : GoodIn wsX5_init (wsX3_init) := ggX5_init_X3_init
set_option maxRecDepth 20000 in
theorem ggX5_grounded_X2_hasGround : GoodIn wsX5_grounded wsX2_hasGround := goodIn_r _ [6, 7, 8, 9, 10, 20, 21, 22, 23, 24, 25, 26] (by decide +kernel) (by decide +kernel)
set_option maxRecDepth 20000 in
theorem gX5_grounded_X2_hasGround : GoodIn wsX5_grounded (wsV RX5 110 RX2 yX2_hasGround wsX2_hasGround) := goodIn_app (goodIn_of _ (by decide +kernel)) ggX5_grounded_X2_hasGround
set_option maxRecDepth 20000 in
theorem ggX5_areCharacters_X5_byteOf : GoodIn wsX5_areCharacters wsX5_byteOf := goodIn_r _ [4] (by decide +kernel) (by decide +kernel)
set_option maxRecDepth 20000 in
theorem gX5_areCharacters_X5_byteOf : GoodIn wsX5_areCharacters (va_wsS RX5 106 yX5_byteOf wsX5_byteOf) := goodIn_app (goodIn_of _ (by decide +kernel)) ggX5_areCharacters_X5_byteOf
set_option maxRecDepth 20000 in
theorem ggX6_rule_X6_fail : GoodIn wsX6_rule wsX6_fail := goodIn_r _ [13, 1, 14, 15, 16, 17, 18, 19, 20, 21, 22, 23, 24, 25, 26, 27, 28, 29, 30, 31, 32, 33, 34, 35, 36, 37, 38, 39, 40, 41, 42, 43, 44, 45, 46, 47, 48, 49, 50, 51, 52, 53, 54, 55, 56] (by decide +kernel) (by decide +kernel)
set_option maxRecDepth 20000 in
theorem gX6_rule_X6_fail : GoodIn wsX6_rule (wsV RX6 106 RX6 yX6_fail wsX6_fail) := goodIn_app (goodIn_of _ (by decide +kernel)) ggX6_rule_X6_fail
set_option maxRecDepth 20000 in
theorem ggX6_write_X6_fail : GoodIn wsX6_write wsX6_fail := goodIn_r _ [9, 1, 10, 11, 12, 13, 14, 15, 16, 17, 18, 19, 20, 21, 22, 23, 24, 25, 26, 27, 28, 29, 30, 31, 32, 33, 34, 35, 36, 37, 38, 39, 40, 41, 42, 43, 44, 45, 46, 47, 48, 49, 50, 51, 52] (by decide +kernel) (by decide +kernel)
set_option maxRecDepth 20000 in
theorem gX6_write_X6_fail : GoodIn wsX6_write (wsV RX6 106 RX6 yX6_fail wsX6_fail) := goodIn_app (goodIn_of _ (by decide +kernel)) ggX6_write_X6_fail
set_option maxRecDepth 20000 in
theorem ggX6_grounded_X6_ground : GoodIn wsX6_grounded wsX6_ground := goodIn_r _ [6, 7, 8, 9, 10, 11, 12, 13, 14, 15, 16, 17, 18, 19, 20, 21, 22, 23, 24, 25, 26, 27, 28, 29, 30, 31, 32, 33, 34, 35, 36, 37, 38, 39, 40, 41, 42, 43, 44, 45, 46, 47, 48, 49, 50, 51, 52, 53] (by decide +kernel) (by decide +kernel)
set_option maxRecDepth 20000 in
theorem gX6_grounded_X6_ground : GoodIn wsX6_grounded (wsV RX6 122 RX6 yX6_ground wsX6_ground) := goodIn_app (goodIn_of _ (by decide +kernel)) ggX6_grounded_X6_ground
set_option maxRecDepth 20000 in
theorem ggX6_cutText_X6_commentEnd : GoodIn wsX6_cutText wsX6_commentEnd := goodIn_r _ [16, 4, 6, 21, 22, 23, 24, 25, 26, 27, 28, 29, 30, 31, 32, 33, 34, 35, 36, 37, 38, 39, 40, 41, 42, 43, 44, 45, 46, 47, 48, 49, 50, 51, 52, 53, 54, 55, 56, 57, 58, 59, 60, 61, 62, 63] (by decide +kernel) (by decide +kernel)
set_option maxRecDepth 20000 in
theorem gX6_cutText_X6_commentEnd : GoodIn wsX6_cutText (wsV RX6 132 RX6 yX6_commentEnd wsX6_commentEnd) := goodIn_app (goodIn_of _ (by decide +kernel)) ggX6_cutText_X6_commentEnd
set_option maxRecDepth 20000 in
theorem ggX6_cutText_X6_tokenEnd : GoodIn wsX6_cutText wsX6_tokenEnd := goodIn_r _ [20, 6, 4, 21, 22, 23, 24, 25, 26, 27, 28, 29, 30, 31, 32, 33, 34, 35, 36, 37, 38, 39, 40, 41, 42, 43, 44, 45, 46, 47, 48, 49, 50, 51, 52, 53, 54, 55, 56, 57, 58, 59, 60, 61, 62, 63] (by decide +kernel) (by decide +kernel)
set_option maxRecDepth 20000 in
theorem gX6_cutText_X6_tokenEnd : GoodIn wsX6_cutText (wsV RX6 135 RX6 yX6_tokenEnd wsX6_tokenEnd) := goodIn_app (goodIn_of _ (by decide +kernel)) ggX6_cutText_X6_tokenEnd
set_option maxRecDepth 20000 in
theorem ggX6_fill_X6_price : GoodIn wsX6_fill wsX6_price := goodIn_r _ [10, 11, 12, 13, 17, 18, 19, 20, 21, 22, 23, 24, 25, 26, 27, 28, 29, 30, 31, 32, 33, 34, 35, 36, 37, 38, 39, 40, 41, 42, 43, 44, 45, 46, 47, 48, 49, 50, 51, 52, 53, 54, 55, 56, 57, 58, 59] (by decide +kernel) (by decide +kernel)
set_option maxRecDepth 20000 in
theorem gX6_fill_X6_price : GoodIn wsX6_fill (wsV RX6 142 RX6 yX6_price wsX6_price) := goodIn_app (goodIn_of _ (by decide +kernel)) ggX6_fill_X6_price
set_option maxRecDepth 20000 in
theorem ggX6_fill_X6_sum : GoodIn wsX6_fill wsX6_sum := goodIn_r _ [16, 3] (by decide +kernel) (by decide +kernel)
set_option maxRecDepth 20000 in
theorem gX6_fill_X6_sum : GoodIn wsX6_fill (va_wsS RX6 146 yX6_sum wsX6_sum) := goodIn_app (goodIn_of _ (by decide +kernel)) ggX6_fill_X6_sum
set_option maxRecDepth 20000 in
theorem ggX6_prices_X6_fill : GoodIn wsX6_prices wsX6_fill := goodIn_r _ [12, 3, 6, 2, 7, 13, 14, 15, 16, 11, 17, 1, 18, 19, 20, 21, 22, 23, 24, 25, 26, 27, 28, 29, 30, 31, 32, 33, 34, 35, 36, 37, 38, 39, 40, 41, 42, 43, 44, 45, 46, 47, 48, 49, 50, 51, 52, 53, 54, 55, 56, 57, 58, 59, 60, 61, 62, 63, 64, 65] (by decide +kernel) (by decide +kernel)
set_option maxRecDepth 20000 in
theorem gX6_prices_X6_fill : GoodIn wsX6_prices (wsV RX6 150 RX6 yX6_fill wsX6_fill) := goodIn_app (goodIn_of _ (by decide +kernel)) ggX6_prices_X6_fill
set_option maxRecDepth 20000 in
theorem ggX6_prices_X6_sum : GoodIn wsX6_prices wsX6_sum := goodIn_r _ [22, 2] (by decide +kernel) (by decide +kernel)
set_option maxRecDepth 20000 in
theorem gX6_prices_X6_sum : GoodIn wsX6_prices (va_wsS RX6 146 yX6_sum wsX6_sum) := goodIn_app (goodIn_of _ (by decide +kernel)) ggX6_prices_X6_sum
set_option maxRecDepth 20000 in
theorem ggX6_choose_X6_fill : GoodIn wsX6_choose wsX6_fill := goodIn_r _ [12, 13, 4, 14, 5, 7, 15, 16, 17, 11, 18, 1, 19, 20, 21, 22, 23, 24, 25, 26, 27, 28, 29, 30, 31, 32, 33, 34, 35, 36, 37, 38, 39, 40, 41, 42, 43, 44, 45, 46, 47, 48, 49, 50, 51, 52, 53, 54, 55, 56, 57, 58, 59, 60, 61, 62, 63, 64, 65, 66] (by decide +kernel) (by decide +kernel)
set_option maxRecDepth 20000 in
theorem gX6_choose_X6_fill : GoodIn wsX6_choose (wsV RX6 150 RX6 yX6_fill wsX6_fill) := goodIn_app (goodIn_of _ (by decide +kernel)) ggX6_choose_X6_fill
set_option maxRecDepth 20000 in
theorem ggX6_choose_X6_sum : GoodIn wsX6_choose wsX6_sum := goodIn_r _ [23, 14] (by decide +kernel) (by decide +kernel)
set_option maxRecDepth 20000 in
theorem gX6_choose_X6_sum : GoodIn wsX6_choose (va_wsS RX6 146 yX6_sum wsX6_sum) := goodIn_app (goodIn_of _ (by decide +kernel)) ggX6_choose_X6_sum
set_option maxRecDepth 20000 in
theorem ggX6_choose_X6_price : GoodIn wsX6_choose wsX6_price := goodIn_r _ [18, 1, 19, 20, 24, 25, 26, 27, 28, 29, 30, 31, 32, 33, 34, 35, 36, 37, 38, 39, 40, 41, 42, 43, 44, 45, 46, 47, 48, 49, 50, 51, 52, 53, 54, 55, 56, 57, 58, 59, 60, 61, 62, 63, 64, 65, 66] (by decide +kernel) (by decide +kernel)
set_option maxRecDepth 20000 in
theorem gX6_choose_X6_price : GoodIn wsX6_choose (wsV RX6 142 RX6 yX6_price wsX6_price) := goodIn_app (goodIn_of _ (by decide +kernel)) ggX6_choose_X6_price
set_option maxRecDepth 20000 in
theorem ggX6_grow_X6_push : GoodIn wsX6_grow wsX6_push := goodIn_r _ [20, 4, 2, 44, 45, 46, 47, 48, 49, 50, 51, 52, 53, 54, 55, 56, 57, 58, 59, 60, 61, 62, 63, 64, 65, 66, 67, 68, 69, 70, 71, 72, 73, 74, 75, 76, 77, 78, 79, 80, 81, 82, 83, 84, 85, 86] (by decide +kernel) (by decide +kernel)
set_option maxRecDepth 20000 in
theorem gX6_grow_X6_push : GoodIn wsX6_grow (wsV RX6 163 RX6 yX6_push wsX6_push) := goodIn_app (goodIn_of _ (by decide +kernel)) ggX6_grow_X6_push
set_option maxRecDepth 20000 in
theorem ggX6_grow_X6_price : GoodIn wsX6_grow wsX6_price := goodIn_r _ [24, 25, 26, 27, 44, 45, 46, 47, 48, 49, 50, 51, 52, 53, 54, 55, 56, 57, 58, 59, 60, 61, 62, 63, 64, 65, 66, 67, 68, 69, 70, 71, 72, 73, 74, 75, 76, 77, 78, 79, 80, 81, 82, 83, 84, 85, 86] (by decide +kernel) (by decide +kernel)
set_option maxRecDepth 20000 in
theorem gX6_grow_X6_price : GoodIn wsX6_grow (wsV RX6 142 RX6 yX6_price wsX6_price) := goodIn_app (goodIn_of _ (by decide +kernel)) ggX6_grow_X6_price
set_option maxRecDepth 20000 in
theorem ggX6_grow_X6_choose : GoodIn wsX6_grow wsX6_choose := goodIn_r _ [31, 25, 32, 33, 34, 13, 15, 14, 35, 36, 37, 19, 38, 39, 40, 21, 22, 23, 24, 26, 27, 41, 42, 43, 44, 45, 46, 47, 48, 49, 50, 51, 52, 53, 54, 55, 56, 57, 58, 59, 60, 61, 62, 63, 64, 65, 66, 67, 68, 69, 70, 71, 72, 73, 74, 75, 76, 77, 78, 79, 80, 81, 82, 83, 84, 85, 86] (by decide +kernel) (by decide +kernel)
set_option maxRecDepth 20000 in
theorem gX6_grow_X6_choose : GoodIn wsX6_grow (wsV RX6 167 RX6 yX6_choose wsX6_choose) := goodIn_app (goodIn_of _ (by decide +kernel)) ggX6_grow_X6_choose
set_option maxRecDepth 20000 in
theorem ggX6_repair_X6_ground : GoodIn wsX6_repair wsX6_ground := goodIn_r _ [14, 15, 16, 17, 18, 85, 86, 87, 88, 89, 90, 91, 92, 93, 94, 95, 96, 97, 98, 99, 100, 101, 102, 103, 104, 105, 106, 107, 108, 109, 110, 111, 112, 113, 114, 115, 116, 117, 118, 119, 120, 121, 122, 123, 124, 125, 126, 127] (by decide +kernel) (by decide +kernel)
set_option maxRecDepth 20000 in
theorem gX6_repair_X6_ground : GoodIn wsX6_repair (wsV RX6 122 RX6 yX6_ground wsX6_ground) := goodIn_app (goodIn_of _ (by decide +kernel)) ggX6_repair_X6_ground
set_option maxRecDepth 20000 in
theorem ggX6_repair_X6_fail : GoodIn wsX6_repair wsX6_fail := goodIn_r _ [22, 1, 85, 86, 87, 88, 89, 90, 91, 92, 93, 94, 95, 96, 97, 98, 99, 100, 101, 102, 103, 104, 105, 106, 107, 108, 109, 110, 111, 112, 113, 114, 115, 116, 117, 118, 119, 120, 121, 122, 123, 124, 125, 126, 127] (by decide +kernel) (by decide +kernel)
set_option maxRecDepth 20000 in
theorem gX6_repair_X6_fail : GoodIn wsX6_repair (wsV RX6 106 RX6 yX6_fail wsX6_fail) := goodIn_app (goodIn_of _ (by decide +kernel)) ggX6_repair_X6_fail
set_option maxRecDepth 20000 in
theorem ggX6_repair_X6_cutText : GoodIn wsX6_repair wsX6_cutText := goodIn_r _ [26, 4, 27, 28, 29, 30, 31, 32, 33, 34, 35, 36, 37, 38, 39, 13, 40, 41, 42, 43, 44, 85, 86, 87, 88, 89, 90, 91, 92, 93, 94, 95, 96, 97, 98, 99, 100, 101, 102, 103, 104, 105, 106, 107, 108, 109, 110, 111, 112, 113, 114, 115, 116, 117, 118, 119, 120, 121, 122, 123, 124, 125, 126, 127] (by decide +kernel) (by decide +kernel)
set_option maxRecDepth 20000 in
theorem gX6_repair_X6_cutText : GoodIn wsX6_repair (wsV RX6 171 RX6 yX6_cutText wsX6_cutText) := goodIn_app (goodIn_of _ (by decide +kernel)) ggX6_repair_X6_cutText
set_option maxRecDepth 20000 in
theorem ggX6_repair_X6_prices : GoodIn wsX6_repair wsX6_prices := goodIn_r _ [48, 5, 49, 4, 15, 18, 50, 16, 51, 52, 53, 13, 54, 17, 55, 56, 57, 58, 6, 36, 59, 60, 61, 85, 86, 87, 88, 89, 90, 91, 92, 93, 94, 95, 96, 97, 98, 99, 100, 101, 102, 103, 104, 105, 106, 107, 108, 109, 110, 111, 112, 113, 114, 115, 116, 117, 118, 119, 120, 121, 122, 123, 124, 125, 126, 127] (by decide +kernel) (by decide +kernel)
set_option maxRecDepth 20000 in
theorem gX6_repair_X6_prices : GoodIn wsX6_repair (wsV RX6 175 RX6 yX6_prices wsX6_prices) := goodIn_app (goodIn_of _ (by decide +kernel)) ggX6_repair_X6_prices
set_option maxRecDepth 20000 in
theorem ggX6_repair_X6_grow : GoodIn wsX6_repair wsX6_grow := goodIn_r _ [65, 66, 67, 3, 68, 69, 70, 71, 72, 73, 7, 74, 75, 16, 17, 76, 77, 78, 79, 13, 80, 55, 56, 57, 58, 5, 6, 36, 81, 82, 83, 84, 15, 18, 50, 51, 52, 53, 54, 4, 49, 59, 60, 61, 85, 86, 87, 88, 89, 90, 91, 92, 93, 94, 95, 96, 97, 98, 99, 100, 101, 102, 103, 104, 105, 106, 107, 108, 109, 110, 111, 112, 113, 114, 115, 116, 117, 118, 119, 120, 121, 122, 123, 124, 125, 126, 127] (by decide +kernel) (by decide +kernel)
set_option maxRecDepth 20000 in
theorem gX6_repair_X6_grow : GoodIn wsX6_repair (wsV RX6 178 RX6 yX6_grow wsX6_grow) := goodIn_app (goodIn_of _ (by decide +kernel)) ggX6_repair_X6_grow
set_option maxRecDepth 20000 in
theorem ggX6_putTokens_X6_put : GoodIn wsX6_putTokens wsX6_put := goodIn_r _ [11, 12, 13, 14, 15, 16, 17, 18, 19, 20, 21, 22, 23, 24, 25, 26, 27, 28, 29, 30, 31, 32, 33, 34, 35, 36, 37, 38, 39, 40, 41, 42, 43, 44, 45, 46, 47, 48, 49, 50, 51, 52, 53, 54, 55, 56, 57] (by decide +kernel) (by decide +kernel)
set_option maxRecDepth 20000 in
theorem gX6_putTokens_X6_put : GoodIn wsX6_putTokens (wsV RX6 193 RX6 yX6_put wsX6_put) := goodIn_app (goodIn_of _ (by decide +kernel)) ggX6_putTokens_X6_put
set_option maxRecDepth 20000 in
theorem ggX6_measure_X6_width : GoodIn wsX6_measure wsX6_width := goodIn_r _ [17, 9, 18, 19, 30, 31, 32, 33, 34, 35, 36, 37, 38, 39, 40, 41, 42, 43, 44, 45, 46, 47, 48, 49, 50, 51, 52, 53, 54, 55, 56, 57, 58, 59, 60, 61, 62, 63, 64, 65, 66, 67, 68, 69, 70, 71, 72] (by decide +kernel) (by decide +kernel)
set_option maxRecDepth 20000 in
theorem gX6_measure_X6_width : GoodIn wsX6_measure (wsV RX6 197 RX6 yX6_width wsX6_width) := goodIn_app (goodIn_of _ (by decide +kernel)) ggX6_measure_X6_width
set_option maxRecDepth 20000 in
theorem ggX6_measure_X6_hintOf : GoodIn wsX6_measure wsX6_hintOf := goodIn_r _ [23, 24, 25, 12, 26, 30, 31, 32, 33, 34, 35, 36, 37, 38, 39, 40, 41, 42, 43, 44, 45, 46, 47, 48, 49, 50, 51, 52, 53, 54, 55, 56, 57, 58, 59, 60, 61, 62, 63, 64, 65, 66, 67, 68, 69, 70, 71, 72] (by decide +kernel) (by decide +kernel)
set_option maxRecDepth 20000 in
theorem gX6_measure_X6_hintOf : GoodIn wsX6_measure (wsV RX6 201 RX6 yX6_hintOf wsX6_hintOf) := goodIn_app (goodIn_of _ (by decide +kernel)) ggX6_measure_X6_hintOf
set_option maxRecDepth 20000 in
theorem ggX6_measure_X6_digit : GoodIn wsX6_measure wsX6_digit := goodIn_r _ [29] (by decide +kernel) (by decide +kernel)
set_option maxRecDepth 20000 in
theorem gX6_measure_X6_digit : GoodIn wsX6_measure (va_wsS RX6 204 yX6_digit wsX6_digit) := goodIn_app (goodIn_of _ (by decide +kernel)) ggX6_measure_X6_digit
set_option maxRecDepth 20000 in
theorem ggX6_between_X6_hintOf : GoodIn wsX6_between wsX6_hintOf := goodIn_r _ [11, 12, 4, 1, 13, 23, 24, 25, 26, 27, 28, 29, 30, 31, 32, 33, 34, 35, 36, 37, 38, 39, 40, 41, 42, 43, 44, 45, 46, 47, 48, 49, 50, 51, 52, 53, 54, 55, 56, 57, 58, 59, 60, 61, 62, 63, 64, 65] (by decide +kernel) (by decide +kernel)
set_option maxRecDepth 20000 in
theorem gX6_between_X6_hintOf : GoodIn wsX6_between (wsV RX6 201 RX6 yX6_hintOf wsX6_hintOf) := goodIn_app (goodIn_of _ (by decide +kernel)) ggX6_between_X6_hintOf
set_option maxRecDepth 20000 in
theorem ggX6_between_X6_put : GoodIn wsX6_between wsX6_put := goodIn_r _ [17, 18, 19, 5, 23, 24, 25, 26, 27, 28, 29, 30, 31, 32, 33, 34, 35, 36, 37, 38, 39, 40, 41, 42, 43, 44, 45, 46, 47, 48, 49, 50, 51, 52, 53, 54, 55, 56, 57, 58, 59, 60, 61, 62, 63, 64, 65] (by decide +kernel) (by decide +kernel)
set_option maxRecDepth 20000 in
theorem gX6_between_X6_put : GoodIn wsX6_between (wsV RX6 193 RX6 yX6_put wsX6_put) := goodIn_app (goodIn_of _ (by decide +kernel)) ggX6_between_X6_put
set_option maxRecDepth 20000 in
theorem ggX6_between_X6_digit : GoodIn wsX6_between wsX6_digit := goodIn_r _ [22] (by decide +kernel) (by decide +kernel)
set_option maxRecDepth 20000 in
theorem gX6_between_X6_digit : GoodIn wsX6_between (va_wsS RX6 204 yX6_digit wsX6_digit) := goodIn_app (goodIn_of _ (by decide +kernel)) ggX6_between_X6_digit
set_option maxRecDepth 20000 in
theorem ggX6_print_X6_fail : GoodIn wsX6_print wsX6_fail := goodIn_r _ [17, 1, 67, 68, 69, 70, 71, 72, 73, 74, 75, 76, 77, 78, 79, 80, 81, 82, 83, 84, 85, 86, 87, 88, 89, 90, 91, 92, 93, 94, 95, 96, 97, 98, 99, 100, 101, 102, 103, 104, 105, 106, 107, 108, 109] (by decide +kernel) (by decide +kernel)
set_option maxRecDepth 20000 in
theorem gX6_print_X6_fail : GoodIn wsX6_print (wsV RX6 106 RX6 yX6_fail wsX6_fail) := goodIn_app (goodIn_of _ (by decide +kernel)) ggX6_print_X6_fail
set_option maxRecDepth 20000 in
theorem ggX6_print_X6_measure : GoodIn wsX6_print wsX6_measure := goodIn_r _ [21, 5, 22, 23, 24, 7, 6, 9, 8, 12, 25, 26, 27, 28, 29, 30, 16, 31, 32, 33, 34, 35, 36, 37, 38, 39, 40, 41, 42, 43, 67, 68, 69, 70, 71, 72, 73, 74, 75, 76, 77, 78, 79, 80, 81, 82, 83, 84, 85, 86, 87, 88, 89, 90, 91, 92, 93, 94, 95, 96, 97, 98, 99, 100, 101, 102, 103, 104, 105, 106, 107, 108, 109] (by decide +kernel) (by decide +kernel)
set_option maxRecDepth 20000 in
theorem gX6_print_X6_measure : GoodIn wsX6_print (wsV RX6 208 RX6 yX6_measure wsX6_measure) := goodIn_app (goodIn_of _ (by decide +kernel)) ggX6_print_X6_measure
set_option maxRecDepth 20000 in
theorem ggX6_print_X6_joint : GoodIn wsX6_print wsX6_joint := goodIn_r _ [47, 27, 22, 67, 68, 69, 70, 71, 72, 73, 74, 75, 76, 77, 78, 79, 80, 81, 82, 83, 84, 85, 86, 87, 88, 89, 90, 91, 92, 93, 94, 95, 96, 97, 98, 99, 100, 101, 102, 103, 104, 105, 106, 107, 108, 109] (by decide +kernel) (by decide +kernel)
set_option maxRecDepth 20000 in
theorem gX6_print_X6_joint : GoodIn wsX6_print (wsV RX6 211 RX6 yX6_joint wsX6_joint) := goodIn_app (goodIn_of _ (by decide +kernel)) ggX6_print_X6_joint
set_option maxRecDepth 20000 in
theorem ggX6_print_X6_between : GoodIn wsX6_print wsX6_between := goodIn_r _ [51, 27, 23, 52, 39, 4, 24, 34, 35, 36, 16, 37, 38, 40, 53, 54, 55, 56, 57, 3, 41, 42, 43, 67, 68, 69, 70, 71, 72, 73, 74, 75, 76, 77, 78, 79, 80, 81, 82, 83, 84, 85, 86, 87, 88, 89, 90, 91, 92, 93, 94, 95, 96, 97, 98, 99, 100, 101, 102, 103, 104, 105, 106, 107, 108, 109] (by decide +kernel) (by decide +kernel)
set_option maxRecDepth 20000 in
theorem gX6_print_X6_between : GoodIn wsX6_print (wsV RX6 214 RX6 yX6_between wsX6_between) := goodIn_app (goodIn_of _ (by decide +kernel)) ggX6_print_X6_between
set_option maxRecDepth 20000 in
theorem ggX6_print_X6_start : GoodIn wsX6_print wsX6_start := goodIn_r _ [61, 27, 23, 22, 7, 4, 67, 68, 69, 70, 71, 72, 73, 74, 75, 76, 77, 78, 79, 80, 81, 82, 83, 84, 85, 86, 87, 88, 89, 90, 91, 92, 93, 94, 95, 96, 97, 98, 99, 100, 101, 102, 103, 104, 105, 106, 107, 108, 109] (by decide +kernel) (by decide +kernel)
set_option maxRecDepth 20000 in
theorem gX6_print_X6_start : GoodIn wsX6_print (wsV RX6 217 RX6 yX6_start wsX6_start) := goodIn_app (goodIn_of _ (by decide +kernel)) ggX6_print_X6_start
set_option maxRecDepth 20000 in
theorem ggX6_print_X6_putTokens : GoodIn wsX6_print wsX6_putTokens := goodIn_r _ [65, 12, 32, 25, 66, 33, 26, 53, 54, 55, 16, 56, 57, 3, 4, 67, 68, 69, 70, 71, 72, 73, 74, 75, 76, 77, 78, 79, 80, 81, 82, 83, 84, 85, 86, 87, 88, 89, 90, 91, 92, 93, 94, 95, 96, 97, 98, 99, 100, 101, 102, 103, 104, 105, 106, 107, 108, 109] (by decide +kernel) (by decide +kernel)
set_option maxRecDepth 20000 in
theorem gX6_print_X6_putTokens : GoodIn wsX6_print (wsV RX6 221 RX6 yX6_putTokens wsX6_putTokens) := goodIn_app (goodIn_of _ (by decide +kernel)) ggX6_print_X6_putTokens
set_option maxRecDepth 20000 in
theorem ggX6_print_X6_put : GoodIn wsX6_print wsX6_put := goodIn_r _ [56, 57, 3, 4, 67, 68, 69, 70, 71, 72, 73, 74, 75, 76, 77, 78, 79, 80, 81, 82, 83, 84, 85, 86, 87, 88, 89, 90, 91, 92, 93, 94, 95, 96, 97, 98, 99, 100, 101, 102, 103, 104, 105, 106, 107, 108, 109] (by decide +kernel) (by decide +kernel)
set_option maxRecDepth 20000 in
theorem gX6_print_X6_put : GoodIn wsX6_print (wsV RX6 193 RX6 yX6_put wsX6_put) := goodIn_app (goodIn_of _ (by decide +kernel)) ggX6_print_X6_put
set_option maxRecDepth 20000 in
theorem ggX6_token_X6_below : GoodIn wsX6_token wsX6_below := goodIn_r _ [10] (by decide +kernel) (by decide +kernel)
set_option maxRecDepth 20000 in
theorem gX6_token_X6_below : GoodIn wsX6_token (va_wsS RX6 225 yX6_below wsX6_below) := goodIn_app (goodIn_of _ (by decide +kernel)) ggX6_token_X6_below
set_option maxRecDepth 20000 in
theorem ggX6_token_X6_fail : GoodIn wsX6_token wsX6_fail := goodIn_r _ [14, 1, 15, 16, 17, 18, 19, 20, 21, 22, 23, 24, 25, 26, 27, 28, 29, 30, 31, 32, 33, 34, 35, 36, 37, 38, 39, 40, 41, 42, 43, 44, 45, 46, 47, 48, 49, 50, 51, 52, 53, 54, 55, 56, 57] (by decide +kernel) (by decide +kernel)
set_option maxRecDepth 20000 in
theorem gX6_token_X6_fail : GoodIn wsX6_token (wsV RX6 106 RX6 yX6_fail wsX6_fail) := goodIn_app (goodIn_of _ (by decide +kernel)) ggX6_token_X6_fail
set_option maxRecDepth 20000 in
theorem ggX6_part_X6_below : GoodIn wsX6_part wsX6_below := goodIn_r _ [15] (by decide +kernel) (by decide +kernel)
set_option maxRecDepth 20000 in
theorem gX6_part_X6_below : GoodIn wsX6_part (va_wsS RX6 225 yX6_below wsX6_below) := goodIn_app (goodIn_of _ (by decide +kernel)) ggX6_part_X6_below
set_option maxRecDepth 20000 in
theorem ggX6_part_X6_fail : GoodIn wsX6_part wsX6_fail := goodIn_r _ [19, 1, 20, 21, 22, 23, 24, 25, 26, 27, 28, 29, 30, 31, 32, 33, 34, 35, 36, 37, 38, 39, 40, 41, 42, 43, 44, 45, 46, 47, 48, 49, 50, 51, 52, 53, 54, 55, 56, 57, 58, 59, 60, 61, 62] (by decide +kernel) (by decide +kernel)
set_option maxRecDepth 20000 in
theorem gX6_part_X6_fail : GoodIn wsX6_part (wsV RX6 106 RX6 yX6_fail wsX6_fail) := goodIn_app (goodIn_of _ (by decide +kernel)) ggX6_part_X6_fail
set_option maxRecDepth 20000 in
theorem ggX6_rest_X6_fail : GoodIn wsX6_rest wsX6_fail := goodIn_r _ [9, 1, 10, 11, 12, 13, 14, 15, 16, 17, 18, 19, 20, 21, 22, 23, 24, 25, 26, 27, 28, 29, 30, 31, 32, 33, 34, 35, 36, 37, 38, 39, 40, 41, 42, 43, 44, 45, 46, 47, 48, 49, 50, 51, 52] (by decide +kernel) (by decide +kernel)
set_option maxRecDepth 20000 in
theorem gX6_rest_X6_fail : GoodIn wsX6_rest (wsV RX6 106 RX6 yX6_fail wsX6_fail) := goodIn_app (goodIn_of _ (by decide +kernel)) ggX6_rest_X6_fail
set_option maxRecDepth 20000 in
theorem ggX6_character_X6_below : GoodIn wsX6_character wsX6_below := goodIn_r _ [7] (by decide +kernel) (by decide +kernel)
set_option maxRecDepth 20000 in
theorem gX6_character_X6_below : GoodIn wsX6_character (va_wsS RX6 225 yX6_below wsX6_below) := goodIn_app (goodIn_of _ (by decide +kernel)) ggX6_character_X6_below
set_option maxRecDepth 20000 in
theorem ggX6_character_X6_fail : GoodIn wsX6_character wsX6_fail := goodIn_r _ [11, 1, 12, 13, 14, 15, 16, 17, 18, 19, 20, 21, 22, 23, 24, 25, 26, 27, 28, 29, 30, 31, 32, 33, 34, 35, 36, 37, 38, 39, 40, 41, 42, 43, 44, 45, 46, 47, 48, 49, 50, 51, 52, 53, 54] (by decide +kernel) (by decide +kernel)
set_option maxRecDepth 20000 in
theorem gX6_character_X6_fail : GoodIn wsX6_character (wsV RX6 106 RX6 yX6_fail wsX6_fail) := goodIn_app (goodIn_of _ (by decide +kernel)) ggX6_character_X6_fail
theorem dJ9_max_7cf53_0 : decode cJ9_max_7cf53 0 = .ok (.iload_n 0, 1) := by decide +kernel
theorem dJ9_max_7cf53_1 : decode cJ9_max_7cf53 1 = .ok (.iload_n 1, 1) := by decide +kernel
theorem dJ9_max_7cf53_2 : decode cJ9_max_7cf53 2 = .ok (.if_icmp .lt 7, 3) := by decide +kernel
theorem dJ9_max_7cf53_5 : decode cJ9_max_7cf53 5 = .ok (.iload_n 0, 1) := by decide +kernel
theorem dJ9_max_7cf53_6 : decode cJ9_max_7cf53 6 = .ok (.goto 4, 3) := by decide +kernel
theorem dJ9_max_7cf53_9 : decode cJ9_max_7cf53 9 = .ok (.iload_n 1, 1) := by decide +kernel
theorem dJ9_max_7cf53_10 : decode cJ9_max_7cf53 10 = .ok (.ireturn, 1) := by decide +kernel
theorem dJ9_min_7cf53_0 : decode cJ9_min_7cf53 0 = .ok (.iload_n 0, 1) := by decide +kernel
theorem dJ9_min_7cf53_1 : decode cJ9_min_7cf53 1 = .ok (.iload_n 1, 1) := by decide +kernel
theorem dJ9_min_7cf53_2 : decode cJ9_min_7cf53 2 = .ok (.if_icmp .gt 7, 3) := by decide +kernel
theorem dJ9_min_7cf53_5 : decode cJ9_min_7cf53 5 = .ok (.iload_n 0, 1) := by decide +kernel
theorem dJ9_min_7cf53_6 : decode cJ9_min_7cf53 6 = .ok (.goto 4, 3) := by decide +kernel
theorem dJ9_min_7cf53_9 : decode cJ9_min_7cf53 9 = .ok (.iload_n 1, 1) := by decide +kernel
theorem dJ9_min_7cf53_10 : decode cJ9_min_7cf53 10 = .ok (.ireturn, 1) := by decide +kernel
theorem dJ9_min_f86c9_0 : decode cJ9_min_f86c9 0 = .ok (.lload_n 0, 1) := by decide +kernel
theorem dJ9_min_f86c9_1 : decode cJ9_min_f86c9 1 = .ok (.lload_n 2, 1) := by decide +kernel
theorem dJ9_min_f86c9_2 : decode cJ9_min_f86c9 2 = .ok (.lcmp, 1) := by decide +kernel
theorem dJ9_min_f86c9_3 : decode cJ9_min_f86c9 3 = .ok (.ifCond .gt 7, 3) := by decide +kernel
theorem dJ9_min_f86c9_6 : decode cJ9_min_f86c9 6 = .ok (.lload_n 0, 1) := by decide +kernel
theorem dJ9_min_f86c9_7 : decode cJ9_min_f86c9 7 = .ok (.goto 4, 3) := by decide +kernel
theorem dJ9_min_f86c9_10 : decode cJ9_min_f86c9 10 = .ok (.lload_n 2, 1) := by decide +kernel
theorem dJ9_min_f86c9_11 : decode cJ9_min_f86c9 11 = .ok (.lreturn, 1) := by decide +kernel
abbrev vwCl : List vw_C := [(RX0, TX0, 6), (RX1, TX1, 10), (RX2, TX2, 7), (RX3, TX3, 9), (RX4, TX4, 14), (RX5, TX5, 9), (RX6, TX6, 43)]

