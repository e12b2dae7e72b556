/-! ===== BEGIN printed: names, fields, word lists, decode rows ===== -/
def RX0 : String := "InsideOutWords$History"
def TX0 : u_T := fun k => match k with
  | 0 => ("InsideOutWords$History", "rows", "[LInsideOutWords$State;", true)
  | 1 => ("InsideOutWords$History", "oldest", "I", false)
  | _ => ("InsideOutWords$History", "size", "I", false)
def tyX0 : Nat → FieldType := fun k => match k with
  | 0 => .array (.object "InsideOutWords$State")
  | 1 => .int
  | _ => .int
abbrev wsX00 : List Cond := u_ws RX0 TX0 3
theorem nmX0 : ∀ a, a < 3 → ∀ b, b < 3 → a ≠ b → (TX0 a).2.1 ≠ (TX0 b).2.1 := by decide +kernel
theorem tyX0_ok : ∀ k, k < 3 → parseFieldDescriptor (TX0 k).2.2.1 = some (tyX0 k) := by decide +kernel
abbrev cX0_init : ByteArray := prog_2_method_1_code
def yX0_init : MethodName := ⟨RX0, "<init>", "()V"⟩
abbrev cX0_keep : ByteArray := prog_2_method_2_code
def yX0_keep : MethodName := ⟨RX0, "keep", "(LInsideOutWords$State;)V"⟩
abbrev cX0_giveBack : ByteArray := prog_2_method_3_code
def yX0_giveBack : MethodName := ⟨RX0, "giveBack", "(LInsideOutWords$State;)V"⟩
abbrev cX0_latest : ByteArray := prog_2_method_4_code
def yX0_latest : MethodName := ⟨RX0, "latest", "()I"⟩
def RX1 : String := "InsideOutWords$State"
def TX1 : u_T := fun k => match k with
  | 0 => ("InsideOutWords$State", "held", "[I", true)
  | 1 => ("InsideOutWords$State", "worn", "[I", true)
  | 2 => ("InsideOutWords$State", "wordIn", "[I", true)
  | 3 => ("InsideOutWords$State", "slotOf", "[I", true)
  | 4 => ("InsideOutWords$State", "writesHere", "[I", true)
  | 5 => ("InsideOutWords$State", "writesOf", "[I", true)
  | 6 => ("InsideOutWords$State", "movesOf", "[I", true)
  | 7 => ("InsideOutWords$State", "settings", "[I", true)
  | 8 => ("InsideOutWords$State", "writes", "I", false)
  | 9 => ("InsideOutWords$State", "changes", "I", false)
  | 10 => ("InsideOutWords$State", "plainChanges", "I", false)
  | 11 => ("InsideOutWords$State", "moves", "I", false)
  | _ => ("InsideOutWords$State", "turnedWrites", "I", false)
def tyX1 : Nat → FieldType := fun k => match k with
  | 0 => .array .int
  | 1 => .array .int
  | 2 => .array .int
  | 3 => .array .int
  | 4 => .array .int
  | 5 => .array .int
  | 6 => .array .int
  | 7 => .array .int
  | 8 => .int
  | 9 => .int
  | 10 => .int
  | 11 => .int
  | _ => .int
abbrev wsX10 : List Cond := u_ws RX1 TX1 13
theorem nmX1 : ∀ a, a < 13 → ∀ b, b < 13 → a ≠ b → (TX1 a).2.1 ≠ (TX1 b).2.1 := by decide +kernel
theorem tyX1_ok : ∀ k, k < 13 → parseFieldDescriptor (TX1 k).2.2.1 = some (tyX1 k) := by decide +kernel
abbrev cX1_init : ByteArray := prog_3_method_1_code
def yX1_init : MethodName := ⟨RX1, "<init>", "()V"⟩
abbrev cX1_copyFrom : ByteArray := prog_3_method_2_code
def yX1_copyFrom : MethodName := ⟨RX1, "copyFrom", "(LInsideOutWords$State;)V"⟩
abbrev cX1_wornAt : ByteArray := prog_3_method_3_code
def yX1_wornAt : MethodName := ⟨RX1, "wornAt", "(II)I"⟩
abbrev cX1_wornTogether : ByteArray := prog_3_method_4_code
def yX1_wornTogether : MethodName := ⟨RX1, "wornTogether", "(I)I"⟩
abbrev cX1_mostWorn : ByteArray := prog_3_method_5_code
def yX1_mostWorn : MethodName := ⟨RX1, "mostWorn", "(I)I"⟩
abbrev cX1_stuckIn : ByteArray := prog_3_method_6_code
def yX1_stuckIn : MethodName := ⟨RX1, "stuckIn", "(I)I"⟩
abbrev cX1_stuckCells : ByteArray := prog_3_method_7_code
def yX1_stuckCells : MethodName := ⟨RX1, "stuckCells", "()I"⟩
abbrev cX1_numberIn : ByteArray := prog_3_method_8_code
def yX1_numberIn : MethodName := ⟨RX1, "numberIn", "(I)I"⟩
abbrev cX1_numberOf : ByteArray := prog_3_method_9_code
def yX1_numberOf : MethodName := ⟨RX1, "numberOf", "(I)I"⟩
abbrev cX1_sumOfWords : ByteArray := prog_3_method_10_code
def yX1_sumOfWords : MethodName := ⟨RX1, "sumOfWords", "()I"⟩
abbrev cX1_isHot : ByteArray := prog_3_method_11_code
def yX1_isHot : MethodName := ⟨RX1, "isHot", "(I)Z"⟩
abbrev cX1_hotWords : ByteArray := prog_3_method_12_code
def yX1_hotWords : MethodName := ⟨RX1, "hotWords", "()I"⟩
abbrev cX1_wayIn : ByteArray := prog_3_method_13_code
def yX1_wayIn : MethodName := ⟨RX1, "wayIn", "(II)I"⟩
abbrev cX1_lessWorn : ByteArray := prog_3_method_14_code
def yX1_lessWorn : MethodName := ⟨RX1, "lessWorn", "(II)I"⟩
abbrev cX1_leastWornFree : ByteArray := prog_3_method_15_code
def yX1_leastWornFree : MethodName := ⟨RX1, "leastWornFree", "()I"⟩
abbrev cX1_leastWornFreeFor : ByteArray := prog_3_method_16_code
def yX1_leastWornFreeFor : MethodName := ⟨RX1, "leastWornFreeFor", "(I)I"⟩
abbrev cX1_targetOf : ByteArray := prog_3_method_17_code
def yX1_targetOf : MethodName := ⟨RX1, "targetOf", "(II)I"⟩
abbrev cX1_place : ByteArray := prog_3_method_18_code
def yX1_place : MethodName := ⟨RX1, "place", "(III)I"⟩
abbrev cX1_wearCells : ByteArray := prog_3_method_19_code
def yX1_wearCells : MethodName := ⟨RX1, "wearCells", "(II)V"⟩
abbrev cX1_settle : ByteArray := prog_3_method_20_code
def yX1_settle : MethodName := ⟨RX1, "settle", "(II)V"⟩
abbrev cX1_placeInTurns : ByteArray := prog_3_method_21_code
def yX1_placeInTurns : MethodName := ⟨RX1, "placeInTurns", "(III)I"⟩
abbrev cX1_swapSlots : ByteArray := prog_3_method_22_code
def yX1_swapSlots : MethodName := ⟨RX1, "swapSlots", "(II)V"⟩
abbrev cX1_dearestIn : ByteArray := prog_3_method_23_code
def yX1_dearestIn : MethodName := ⟨RX1, "dearestIn", "(I)I"⟩
abbrev cX1_lowestHalfwayFrom : ByteArray := prog_3_method_24_code
def yX1_lowestHalfwayFrom : MethodName := ⟨RX1, "lowestHalfwayFrom", "(I)I"⟩
abbrev cX1_lowestOnes : ByteArray := prog_3_method_25_code
def yX1_lowestOnes : MethodName := ⟨RX1, "lowestOnes", "(II)I"⟩
def RX2 : String := "InsideOutWords$Text"
def TX2 : u_T := fun k => match k with
  | 0 => ("InsideOutWords$Text", "codes", "[I", true)
  | 1 => ("InsideOutWords$Text", "length", "I", false)
  | 2 => ("InsideOutWords$Text", "parsedWord", "[I", true)
  | 3 => ("InsideOutWords$Text", "parsedNumber", "[I", true)
  | 4 => ("InsideOutWords$Text", "parsed", "I", false)
  | 5 => ("InsideOutWords$Text", "stage", "I", false)
  | _ => ("InsideOutWords$Text", "word", "I", false)
def tyX2 : Nat → FieldType := fun k => match k with
  | 0 => .array .int
  | 1 => .int
  | 2 => .array .int
  | 3 => .array .int
  | 4 => .int
  | 5 => .int
  | _ => .int
abbrev wsX20 : List Cond := u_ws RX2 TX2 7
theorem nmX2 : ∀ a, a < 7 → ∀ b, b < 7 → a ≠ b → (TX2 a).2.1 ≠ (TX2 b).2.1 := by decide +kernel
theorem tyX2_ok : ∀ k, k < 7 → parseFieldDescriptor (TX2 k).2.2.1 = some (tyX2 k) := by decide +kernel
abbrev cX2_init : ByteArray := prog_4_method_1_code
def yX2_init : MethodName := ⟨RX2, "<init>", "()V"⟩
abbrev cX2_add : ByteArray := prog_4_method_2_code
def yX2_add : MethodName := ⟨RX2, "add", "(I)V"⟩
abbrev cX2_parse : ByteArray := prog_4_method_3_code
def yX2_parse : MethodName := ⟨RX2, "parse", "()I"⟩
abbrev cX2_isComplete : ByteArray := prog_4_method_4_code
def yX2_isComplete : MethodName := ⟨RX2, "isComplete", "()Z"⟩
abbrev cX2_takes : ByteArray := prog_4_method_5_code
def yX2_takes : MethodName := ⟨RX2, "takes", "(I)Z"⟩
abbrev cX2_takesFirstDigit : ByteArray := prog_4_method_6_code
def yX2_takesFirstDigit : MethodName := ⟨RX2, "takesFirstDigit", "(I)Z"⟩
abbrev cX2_takesInNumber : ByteArray := prog_4_method_7_code
def yX2_takesInNumber : MethodName := ⟨RX2, "takesInNumber", "(I)Z"⟩
abbrev cX2_hashAfter : ByteArray := prog_4_method_8_code
def yX2_hashAfter : MethodName := ⟨RX2, "hashAfter", "(J)J"⟩
def RX3 : String := "InsideOutWords"
def TX3 : u_T := fun k => match k with
  | 0 => ("InsideOutWords", "now", "LInsideOutWords$State;", true)
  | 1 => ("InsideOutWords", "trial", "LInsideOutWords$State;", true)
  | 2 => ("InsideOutWords", "history", "LInsideOutWords$History;", true)
  | _ => ("InsideOutWords", "text", "LInsideOutWords$Text;", true)
def tyX3 : Nat → FieldType := fun k => match k with
  | 0 => .object "InsideOutWords$State"
  | 1 => .object "InsideOutWords$State"
  | 2 => .object "InsideOutWords$History"
  | _ => .object "InsideOutWords$Text"
abbrev wsX30 : List Cond := u_ws RX3 TX3 4
theorem nmX3 : ∀ a, a < 4 → ∀ b, b < 4 → a ≠ b → (TX3 a).2.1 ≠ (TX3 b).2.1 := by decide +kernel
theorem tyX3_ok : ∀ k, k < 4 → parseFieldDescriptor (TX3 k).2.2.1 = some (tyX3 k) := by decide +kernel
abbrev cX3_init : ByteArray := prog_1_method_1_code
def yX3_init : MethodName := ⟨RX3, "<init>", "()V"⟩
abbrev cX3_write : ByteArray := prog_1_method_2_code
def yX3_write : MethodName := ⟨RX3, "write", "(II)I"⟩
abbrev cX3_hammer : ByteArray := prog_1_method_3_code
def yX3_hammer : MethodName := ⟨RX3, "hammer", "(III)I"⟩
abbrev cX3_exchange : ByteArray := prog_1_method_4_code
def yX3_exchange : MethodName := ⟨RX3, "exchange", "(II)I"⟩
abbrev cX3_wear : ByteArray := prog_1_method_5_code
def yX3_wear : MethodName := ⟨RX3, "wear", "(III)I"⟩
abbrev cX3_set : ByteArray := prog_1_method_6_code
def yX3_set : MethodName := ⟨RX3, "set", "(II)I"⟩
abbrev cX3_append : ByteArray := prog_1_method_7_code
def yX3_append : MethodName := ⟨RX3, "append", "(I)I"⟩
abbrev cX3_clearBuffer : ByteArray := prog_1_method_8_code
def yX3_clearBuffer : MethodName := ⟨RX3, "clearBuffer", "()I"⟩
abbrev cX3_firstError : ByteArray := prog_1_method_9_code
def yX3_firstError : MethodName := ⟨RX3, "firstError", "()I"⟩
abbrev cX3_writeAll : ByteArray := prog_1_method_10_code
def yX3_writeAll : MethodName := ⟨RX3, "writeAll", "()I"⟩
abbrev cX3_undo : ByteArray := prog_1_method_11_code
def yX3_undo : MethodName := ⟨RX3, "undo", "()I"⟩
abbrev cX3_read : ByteArray := prog_1_method_12_code
def yX3_read : MethodName := ⟨RX3, "read", "(I)I"⟩
abbrev cX3_word : ByteArray := prog_1_method_13_code
def yX3_word : MethodName := ⟨RX3, "word", "(II)I"⟩
abbrev cX3_slot : ByteArray := prog_1_method_14_code
def yX3_slot : MethodName := ⟨RX3, "slot", "(II)I"⟩
abbrev cX3_wearOf : ByteArray := prog_1_method_15_code
def yX3_wearOf : MethodName := ⟨RX3, "wearOf", "(II)I"⟩
abbrev cX3_count : ByteArray := prog_1_method_16_code
def yX3_count : MethodName := ⟨RX3, "count", "(I)I"⟩
abbrev cX3_setting : ByteArray := prog_1_method_17_code
def yX3_setting : MethodName := ⟨RX3, "setting", "(I)I"⟩
abbrev cX3_cost : ByteArray := prog_1_method_18_code
def yX3_cost : MethodName := ⟨RX3, "cost", "(II)I"⟩
abbrev cX3_ifWritten : ByteArray := prog_1_method_19_code
def yX3_ifWritten : MethodName := ⟨RX3, "ifWritten", "(II)I"⟩
abbrev cX3_costliest : ByteArray := prog_1_method_20_code
def yX3_costliest : MethodName := ⟨RX3, "costliest", "(I)I"⟩
abbrev cX3_life : ByteArray := prog_1_method_21_code
def yX3_life : MethodName := ⟨RX3, "life", "(II)I"⟩
abbrev cX3_share : ByteArray := prog_1_method_22_code
def yX3_share : MethodName := ⟨RX3, "share", "()D"⟩
abbrev cX3_digest : ByteArray := prog_1_method_23_code
def yX3_digest : MethodName := ⟨RX3, "digest", "()J"⟩
abbrev cX3_hashOfWord : ByteArray := prog_1_method_24_code
def yX3_hashOfWord : MethodName := ⟨RX3, "hashOfWord", "(JI)J"⟩
abbrev cX3_hashOfSlot : ByteArray := prog_1_method_25_code
def yX3_hashOfSlot : MethodName := ⟨RX3, "hashOfSlot", "(JI)J"⟩
abbrev cX3_bitsOf : ByteArray := prog_1_method_26_code
def yX3_bitsOf : MethodName := ⟨RX3, "bitsOf", "(D)J"⟩
abbrev cX3_placeParsed : ByteArray := prog_1_method_27_code
def yX3_placeParsed : MethodName := ⟨RX3, "placeParsed", "()I"⟩
abbrev cX3_isOutside : ByteArray := prog_1_method_28_code
def yX3_isOutside : MethodName := ⟨RX3, "isOutside", "(III)Z"⟩
abbrev cX3_needWord : ByteArray := prog_1_method_29_code
def yX3_needWord : MethodName := ⟨RX3, "needWord", "(I)V"⟩
abbrev cX3_needSlot : ByteArray := prog_1_method_30_code
def yX3_needSlot : MethodName := ⟨RX3, "needSlot", "(I)V"⟩
abbrev cX3_needCell : ByteArray := prog_1_method_31_code
def yX3_needCell : MethodName := ⟨RX3, "needCell", "(I)V"⟩
abbrev cX3_needSetting : ByteArray := prog_1_method_32_code
def yX3_needSetting : MethodName := ⟨RX3, "needSetting", "(I)V"⟩
abbrev cX3_needNumber : ByteArray := prog_1_method_33_code
def yX3_needNumber : MethodName := ⟨RX3, "needNumber", "(I)V"⟩
abbrev cX3_needWhat : ByteArray := prog_1_method_34_code
def yX3_needWhat : MethodName := ⟨RX3, "needWhat", "(II)V"⟩
def RX4 : String := "InsideOutWordsModel"
def TX4 : u_T := fun k => match k with
  | 0 => ("InsideOutWordsModel", "now", "[I", true)
  | 1 => ("InsideOutWordsModel", "then", "[I", true)
  | 2 => ("InsideOutWordsModel", "past", "[I", true)
  | 3 => ("InsideOutWordsModel", "kept", "I", false)
  | 4 => ("InsideOutWordsModel", "text", "[I", true)
  | 5 => ("InsideOutWordsModel", "typed", "I", false)
  | 6 => ("InsideOutWordsModel", "thrown", "I", false)
  | 7 => ("InsideOutWordsModel", "at", "I", false)
  | 8 => ("InsideOutWordsModel", "isFault", "Z", false)
  | 9 => ("InsideOutWordsModel", "value", "I", false)
  | 10 => ("InsideOutWordsModel", "told", "[I", true)
  | _ => ("InsideOutWordsModel", "tolds", "I", false)
def tyX4 : Nat → FieldType := fun k => match k with
  | 0 => .array .int
  | 1 => .array .int
  | 2 => .array .int
  | 3 => .int
  | 4 => .array .int
  | 5 => .int
  | 6 => .int
  | 7 => .int
  | 8 => .boolean
  | 9 => .int
  | 10 => .array .int
  | _ => .int
abbrev wsX40 : List Cond := u_ws RX4 TX4 12
theorem nmX4 : ∀ a, a < 12 → ∀ b, b < 12 → a ≠ b → (TX4 a).2.1 ≠ (TX4 b).2.1 := by decide +kernel
theorem tyX4_ok : ∀ k, k < 12 → parseFieldDescriptor (TX4 k).2.2.1 = some (tyX4 k) := by decide +kernel
abbrev cX4_init : ByteArray := prog_6_method_1_code
def yX4_init : MethodName := ⟨RX4, "<init>", "()V"⟩
abbrev cX4_thrown : ByteArray := prog_6_method_2_code
def yX4_thrown : MethodName := ⟨RX4, "thrown", "()I"⟩
abbrev cX4_fails : ByteArray := prog_6_method_3_code
def yX4_fails : MethodName := ⟨RX4, "fails", "(I)I"⟩
abbrev cX4_in : ByteArray := prog_6_method_4_code
def yX4_in : MethodName := ⟨RX4, "in", "(III)Z"⟩
abbrev cX4_isWord : ByteArray := prog_6_method_5_code
def yX4_isWord : MethodName := ⟨RX4, "isWord", "(I)Z"⟩
abbrev cX4_isSlot : ByteArray := prog_6_method_6_code
def yX4_isSlot : MethodName := ⟨RX4, "isSlot", "(I)Z"⟩
abbrev cX4_isNumber : ByteArray := prog_6_method_7_code
def yX4_isNumber : MethodName := ⟨RX4, "isNumber", "(I)Z"⟩
abbrev cX4_copies : ByteArray := prog_6_method_8_code
def yX4_copies : MethodName := ⟨RX4, "copies", "([II[II)V"⟩
abbrev cX4_saves : ByteArray := prog_6_method_9_code
def yX4_saves : MethodName := ⟨RX4, "saves", "()V"⟩
abbrev cX4_undo : ByteArray := prog_6_method_10_code
def yX4_undo : MethodName := ⟨RX4, "undo", "()I"⟩
abbrev cX4_ones : ByteArray := prog_6_method_11_code
def yX4_ones : MethodName := ⟨RX4, "ones", "(I)I"⟩
abbrev cX4_worn : ByteArray := prog_6_method_12_code
def yX4_worn : MethodName := ⟨RX4, "worn", "([III)I"⟩
abbrev cX4_stuck : ByteArray := prog_6_method_13_code
def yX4_stuck : MethodName := ⟨RX4, "stuck", "([II)I"⟩
abbrev cX4_allWear : ByteArray := prog_6_method_14_code
def yX4_allWear : MethodName := ⟨RX4, "allWear", "([II)I"⟩
abbrev cX4_wordOf : ByteArray := prog_6_method_15_code
def yX4_wordOf : MethodName := ⟨RX4, "wordOf", "([II)I"⟩
abbrev cX4_reads : ByteArray := prog_6_method_16_code
def yX4_reads : MethodName := ⟨RX4, "reads", "([II)I"⟩
abbrev cX4_taken : ByteArray := prog_6_method_17_code
def yX4_taken : MethodName := ⟨RX4, "taken", "([IIII)I"⟩
abbrev cX4_costs : ByteArray := prog_6_method_18_code
def yX4_costs : MethodName := ⟨RX4, "costs", "([IIII)I"⟩
abbrev cX4_bars : ByteArray := prog_6_method_19_code
def yX4_bars : MethodName := ⟨RX4, "bars", "([III)Z"⟩
abbrev cX4_free : ByteArray := prog_6_method_20_code
def yX4_free : MethodName := ⟨RX4, "free", "([II)I"⟩
abbrev cX4_isHot : ByteArray := prog_6_method_21_code
def yX4_isHot : MethodName := ⟨RX4, "isHot", "([II)Z"⟩
abbrev cX4_goesTo : ByteArray := prog_6_method_22_code
def yX4_goesTo : MethodName := ⟨RX4, "goesTo", "([III)I"⟩
abbrev cX4_writes : ByteArray := prog_6_method_23_code
def yX4_writes : MethodName := ⟨RX4, "writes", "([III)I"⟩
abbrev cX4_hammers : ByteArray := prog_6_method_24_code
def yX4_hammers : MethodName := ⟨RX4, "hammers", "([IIII)I"⟩
abbrev cX4_write : ByteArray := prog_6_method_25_code
def yX4_write : MethodName := ⟨RX4, "write", "(II)I"⟩
abbrev cX4_hammer : ByteArray := prog_6_method_26_code
def yX4_hammer : MethodName := ⟨RX4, "hammer", "(III)I"⟩
abbrev cX4_exchange : ByteArray := prog_6_method_27_code
def yX4_exchange : MethodName := ⟨RX4, "exchange", "(II)I"⟩
abbrev cX4_wear : ByteArray := prog_6_method_28_code
def yX4_wear : MethodName := ⟨RX4, "wear", "(III)I"⟩
abbrev cX4_set : ByteArray := prog_6_method_29_code
def yX4_set : MethodName := ⟨RX4, "set", "(II)I"⟩
abbrev cX4_append : ByteArray := prog_6_method_30_code
def yX4_append : MethodName := ⟨RX4, "append", "(I)I"⟩
abbrev cX4_clearBuffer : ByteArray := prog_6_method_31_code
def yX4_clearBuffer : MethodName := ⟨RX4, "clearBuffer", "()I"⟩
abbrev cX4_isAt : ByteArray := prog_6_method_32_code
def yX4_isAt : MethodName := ⟨RX4, "isAt", "(II)Z"⟩
abbrev cX4_stops : ByteArray := prog_6_method_33_code
def yX4_stops : MethodName := ⟨RX4, "stops", "()Z"⟩
abbrev cX4_isValue : ByteArray := prog_6_method_34_code
def yX4_isValue : MethodName := ⟨RX4, "isValue", "()Z"⟩
abbrev cX4_isPart : ByteArray := prog_6_method_35_code
def yX4_isPart : MethodName := ⟨RX4, "isPart", "()Z"⟩
abbrev cX4_isText : ByteArray := prog_6_method_36_code
def yX4_isText : MethodName := ⟨RX4, "isText", "()Z"⟩
abbrev cX4_firstError : ByteArray := prog_6_method_37_code
def yX4_firstError : MethodName := ⟨RX4, "firstError", "()I"⟩
abbrev cX4_writeAll : ByteArray := prog_6_method_38_code
def yX4_writeAll : MethodName := ⟨RX4, "writeAll", "()I"⟩
abbrev cX4_read : ByteArray := prog_6_method_39_code
def yX4_read : MethodName := ⟨RX4, "read", "(I)I"⟩
abbrev cX4_ofWord : ByteArray := prog_6_method_40_code
def yX4_ofWord : MethodName := ⟨RX4, "ofWord", "(II)I"⟩
abbrev cX4_word : ByteArray := prog_6_method_41_code
def yX4_word : MethodName := ⟨RX4, "word", "(II)I"⟩
abbrev cX4_mostWorn : ByteArray := prog_6_method_42_code
def yX4_mostWorn : MethodName := ⟨RX4, "mostWorn", "(I)I"⟩
abbrev cX4_ofSlot : ByteArray := prog_6_method_43_code
def yX4_ofSlot : MethodName := ⟨RX4, "ofSlot", "(II)I"⟩
abbrev cX4_slot : ByteArray := prog_6_method_44_code
def yX4_slot : MethodName := ⟨RX4, "slot", "(II)I"⟩
abbrev cX4_wearOf : ByteArray := prog_6_method_45_code
def yX4_wearOf : MethodName := ⟨RX4, "wearOf", "(II)I"⟩
abbrev cX4_stuckCells : ByteArray := prog_6_method_46_code
def yX4_stuckCells : MethodName := ⟨RX4, "stuckCells", "()I"⟩
abbrev cX4_overWords : ByteArray := prog_6_method_47_code
def yX4_overWords : MethodName := ⟨RX4, "overWords", "(Z)I"⟩
abbrev cX4_counted : ByteArray := prog_6_method_48_code
def yX4_counted : MethodName := ⟨RX4, "counted", "(I)I"⟩
abbrev cX4_count : ByteArray := prog_6_method_49_code
def yX4_count : MethodName := ⟨RX4, "count", "(I)I"⟩
abbrev cX4_setting : ByteArray := prog_6_method_50_code
def yX4_setting : MethodName := ⟨RX4, "setting", "(I)I"⟩
abbrev cX4_cost : ByteArray := prog_6_method_51_code
def yX4_cost : MethodName := ⟨RX4, "cost", "(II)I"⟩
abbrev cX4_ifWritten : ByteArray := prog_6_method_52_code
def yX4_ifWritten : MethodName := ⟨RX4, "ifWritten", "(II)I"⟩
abbrev cX4_dearest : ByteArray := prog_6_method_53_code
def yX4_dearest : MethodName := ⟨RX4, "dearest", "(I)I"⟩
abbrev cX4_costliest : ByteArray := prog_6_method_54_code
def yX4_costliest : MethodName := ⟨RX4, "costliest", "(I)I"⟩
abbrev cX4_lives : ByteArray := prog_6_method_55_code
def yX4_lives : MethodName := ⟨RX4, "lives", "(II)I"⟩
abbrev cX4_life : ByteArray := prog_6_method_56_code
def yX4_life : MethodName := ⟨RX4, "life", "(II)I"⟩
abbrev cX4_saved : ByteArray := prog_6_method_57_code
def yX4_saved : MethodName := ⟨RX4, "saved", "()D"⟩
abbrev cX4_share : ByteArray := prog_6_method_58_code
def yX4_share : MethodName := ⟨RX4, "share", "()D"⟩
abbrev cX4_digest : ByteArray := prog_6_method_59_code
def yX4_digest : MethodName := ⟨RX4, "digest", "()J"⟩
def RJxe99ae : String := "java/lang/Double"
def TJxe99ae : u_T := fun k => match k with
  | _ => ("", "", "", false)
def tyJxe99ae : Nat → FieldType := fun k => match k with
  | _ => .int
abbrev wsJxe99ae0 : List Cond := u_ws RJxe99ae TJxe99ae 0
theorem nmJxe99ae : ∀ a, a < 0 → ∀ b, b < 0 → a ≠ b → (TJxe99ae a).2.1 ≠ (TJxe99ae b).2.1 := by decide +kernel
theorem tyJxe99ae_ok : ∀ k, k < 0 → parseFieldDescriptor (TJxe99ae k).2.2.1 = some (tyJxe99ae k) := by decide +kernel
abbrev cJxe99ae_isNaN_b9ae7 : ByteArray := prog_7_method_6_code
def yJxe99ae_isNaN_b9ae7 : MethodName := ⟨RJxe99ae, "isNaN", "(D)Z"⟩
abbrev cJxe99ae_doubleToLongBits_ccdee : ByteArray := prog_7_method_23_code
def yJxe99ae_doubleToLongBits_ccdee : MethodName := ⟨RJxe99ae, "doubleToLongBits", "(D)J"⟩
def RJ6 : String := "java/lang/Integer"
def TJ6 : u_T := fun k => match k with
  | _ => ("", "", "", false)
def tyJ6 : Nat → FieldType := fun k => match k with
  | _ => .int
abbrev wsJ60 : List Cond := u_ws RJ6 TJ6 0
theorem nmJ6 : ∀ a, a < 0 → ∀ b, b < 0 → a ≠ b → (TJ6 a).2.1 ≠ (TJ6 b).2.1 := by decide +kernel
theorem tyJ6_ok : ∀ k, k < 0 → parseFieldDescriptor (TJ6 k).2.2.1 = some (tyJ6 k) := by decide +kernel
abbrev cJ6_bitCount_0f7a4 : ByteArray := prog_12_method_49_code
def yJ6_bitCount_0f7a4 : MethodName := ⟨RJ6, "bitCount", "(I)I"⟩
def RJ9 : String := "java/lang/Math"
def TJ9 : u_T := fun k => match k with
  | _ => ("", "", "", false)
def tyJ9 : Nat → FieldType := fun k => match k with
  | _ => .int
abbrev wsJ90 : List Cond := u_ws RJ9 TJ9 0
theorem nmJ9 : ∀ a, a < 0 → ∀ b, b < 0 → a ≠ b → (TJ9 a).2.1 ≠ (TJ9 b).2.1 := by decide +kernel
theorem tyJ9_ok : ∀ k, k < 0 → parseFieldDescriptor (TJ9 k).2.2.1 = some (tyJ9 k) := by decide +kernel
abbrev cJ9_max_7cf53 : ByteArray := prog_13_method_65_code
def yJ9_max_7cf53 : MethodName := ⟨RJ9, "max", "(II)I"⟩
def RJ0 : String := "java/lang/String"
def TJ0 : u_T := fun k => match k with
  | _ => ("", "", "", false)
def tyJ0 : Nat → FieldType := fun k => match k with
  | _ => .int
abbrev wsJ00 : List Cond := u_ws RJ0 TJ0 0
theorem nmJ0 : ∀ a, a < 0 → ∀ b, b < 0 → a ≠ b → (TJ0 a).2.1 ≠ (TJ0 b).2.1 := by decide +kernel
theorem tyJ0_ok : ∀ k, k < 0 → parseFieldDescriptor (TJ0 k).2.2.1 = some (tyJ0 k) := by decide +kernel
def RJ10 : String := "java/lang/System"
def TJ10 : u_T := fun k => match k with
  | _ => ("", "", "", false)
def tyJ10 : Nat → FieldType := fun k => match k with
  | _ => .int
abbrev wsJ100 : List Cond := u_ws RJ10 TJ10 0
theorem nmJ10 : ∀ a, a < 0 → ∀ b, b < 0 → a ≠ b → (TJ10 a).2.1 ≠ (TJ10 b).2.1 := by decide +kernel
theorem tyJ10_ok : ∀ k, k < 0 → parseFieldDescriptor (TJ10 k).2.2.1 = some (tyJ10 k) := by decide +kernel
def RL : String := "InsideOutWordsLaw"
abbrev cL_write : ByteArray := method_3_code
def yL_write : MethodName := ⟨RL, "write", "(LInsideOutWords;II[J)I"⟩
abbrev cL_hammer : ByteArray := method_4_code
def yL_hammer : MethodName := ⟨RL, "hammer", "(LInsideOutWords;III[J)I"⟩
abbrev cL_exchange : ByteArray := method_5_code
def yL_exchange : MethodName := ⟨RL, "exchange", "(LInsideOutWords;II[J)I"⟩
abbrev cL_wear : ByteArray := method_6_code
def yL_wear : MethodName := ⟨RL, "wear", "(LInsideOutWords;III[J)I"⟩
abbrev cL_set : ByteArray := method_7_code
def yL_set : MethodName := ⟨RL, "set", "(LInsideOutWords;II[J)I"⟩
abbrev cL_append : ByteArray := method_8_code
def yL_append : MethodName := ⟨RL, "append", "(LInsideOutWords;I[J)I"⟩
abbrev cL_writeAll : ByteArray := method_9_code
def yL_writeAll : MethodName := ⟨RL, "writeAll", "(LInsideOutWords;[J)I"⟩
abbrev cL_undo : ByteArray := method_10_code
def yL_undo : MethodName := ⟨RL, "undo", "(LInsideOutWords;[J)I"⟩
abbrev cL_read : ByteArray := method_11_code
def yL_read : MethodName := ⟨RL, "read", "(LInsideOutWords;I[J)I"⟩
abbrev cL_word : ByteArray := method_12_code
def yL_word : MethodName := ⟨RL, "word", "(LInsideOutWords;II[J)I"⟩
abbrev cL_slot : ByteArray := method_13_code
def yL_slot : MethodName := ⟨RL, "slot", "(LInsideOutWords;II[J)I"⟩
abbrev cL_wearOf : ByteArray := method_14_code
def yL_wearOf : MethodName := ⟨RL, "wearOf", "(LInsideOutWords;II[J)I"⟩
abbrev cL_count : ByteArray := method_15_code
def yL_count : MethodName := ⟨RL, "count", "(LInsideOutWords;I[J)I"⟩
abbrev cL_setting : ByteArray := method_16_code
def yL_setting : MethodName := ⟨RL, "setting", "(LInsideOutWords;I[J)I"⟩
abbrev cL_cost : ByteArray := method_17_code
def yL_cost : MethodName := ⟨RL, "cost", "(LInsideOutWords;II[J)I"⟩
abbrev cL_ifWritten : ByteArray := method_18_code
def yL_ifWritten : MethodName := ⟨RL, "ifWritten", "(LInsideOutWords;II[J)I"⟩
abbrev cL_costliest : ByteArray := method_19_code
def yL_costliest : MethodName := ⟨RL, "costliest", "(LInsideOutWords;I[J)I"⟩
abbrev cL_life : ByteArray := method_20_code
def yL_life : MethodName := ⟨RL, "life", "(LInsideOutWords;II[J)I"⟩
abbrev cL_law : ByteArray := code
def yL_law : MethodName := ⟨RL, "law", "([I)Z"⟩
def wsX1_init : List Cond := .code yX1_init cX1_init 2 none :: ([.methodLink RX1 3 objectInit, .instanceMethod objectInit, .code objectInit ⟨#[0xb1]⟩ 1 none, .arrayClass .int, .fieldLink RX1 9 "InsideOutWords$State" "held" "[I", .fieldLink RX1 15 "InsideOutWords$State" "worn" "[I", .fieldLink RX1 18 "InsideOutWords$State" "wordIn" "[I", .fieldLink RX1 21 "InsideOutWords$State" "slotOf" "[I", .fieldLink RX1 24 "InsideOutWords$State" "writesHere" "[I", .fieldLink RX1 27 "InsideOutWords$State" "writesOf" "[I", .fieldLink RX1 30 "InsideOutWords$State" "movesOf" "[I", .fieldLink RX1 33 "InsideOutWords$State" "settings" "[I"] ++ wsX10)
def wsX0_init : List Cond := .code yX0_init cX0_init 2 none :: ([.methodLink RX0 3 objectInit, .instanceMethod objectInit, .code objectInit ⟨#[0xb1]⟩ 1 none, .classLink RX0 9 RX1, .fieldLink RX0 11 "InsideOutWords$History" "rows" "[LInsideOutWords$State;", .instantiable RX1 13, .initialized RX1, .methodLink RX0 17 yX1_init, .instanceMethod yX1_init, .code yX1_init cX1_init 2 none, .methodLink RX1 3 objectInit, .arrayClass .int, .fieldLink RX1 9 "InsideOutWords$State" "held" "[I", .fieldLink RX1 15 "InsideOutWords$State" "worn" "[I", .fieldLink RX1 18 "InsideOutWords$State" "wordIn" "[I", .fieldLink RX1 21 "InsideOutWords$State" "slotOf" "[I", .fieldLink RX1 24 "InsideOutWords$State" "writesHere" "[I", .fieldLink RX1 27 "InsideOutWords$State" "writesOf" "[I", .fieldLink RX1 30 "InsideOutWords$State" "movesOf" "[I", .fieldLink RX1 33 "InsideOutWords$State" "settings" "[I"] ++ wsX00 ++ wsX10)
def wsX0_latest : List Cond := .code yX0_latest cX0_latest 1 (some .int) :: ([.fieldLink RX0 22 "InsideOutWords$History" "oldest" "I", .fieldLink RX0 18 "InsideOutWords$History" "size" "I"] ++ wsX00)
def wsX1_copyFrom : List Cond := .code yX1_copyFrom cX1_copyFrom 2 none :: ([.fieldLink RX1 9 "InsideOutWords$State" "held" "[I", .methodLink RX1 36 arraycopyName, .native arraycopyName, .static arraycopyName, .initialized "java/lang/System", .fieldLink RX1 15 "InsideOutWords$State" "worn" "[I", .fieldLink RX1 18 "InsideOutWords$State" "wordIn" "[I", .fieldLink RX1 21 "InsideOutWords$State" "slotOf" "[I", .fieldLink RX1 24 "InsideOutWords$State" "writesHere" "[I", .fieldLink RX1 27 "InsideOutWords$State" "writesOf" "[I", .fieldLink RX1 30 "InsideOutWords$State" "movesOf" "[I", .fieldLink RX1 33 "InsideOutWords$State" "settings" "[I", .fieldLink RX1 42 "InsideOutWords$State" "writes" "I", .fieldLink RX1 46 "InsideOutWords$State" "changes" "I", .fieldLink RX1 49 "InsideOutWords$State" "plainChanges" "I", .fieldLink RX1 52 "InsideOutWords$State" "moves" "I", .fieldLink RX1 55 "InsideOutWords$State" "turnedWrites" "I"] ++ wsX10)
def wsX0_keep_r1 : List Cond := [Cond.fieldLink RX0 18 "InsideOutWords$History" "size" "I", Cond.fieldLink RX0 22 "InsideOutWords$History" "oldest" "I", Cond.fieldLink RX0 11 "InsideOutWords$History" "rows" "[LInsideOutWords$State;", Cond.methodLink RX0 25 yX0_latest, Cond.instanceMethod yX0_latest, Cond.selects RX0 yX0_latest yX0_latest, Cond.initialized RX0, Cond.code yX0_latest cX0_latest 1 (some .int), Cond.methodLink RX0 29 yX1_copyFrom, Cond.instanceMethod yX1_copyFrom, Cond.selects RX1 yX1_copyFrom yX1_copyFrom, Cond.initialized RX1, Cond.code yX1_copyFrom cX1_copyFrom 2 none, Cond.fieldLink RX1 9 "InsideOutWords$State" "held" "[I", Cond.methodLink RX1 36 arraycopyName, Cond.native arraycopyName, Cond.static arraycopyName, Cond.initialized "java/lang/System", Cond.fieldLink RX1 15 "InsideOutWords$State" "worn" "[I", Cond.fieldLink RX1 18 "InsideOutWords$State" "wordIn" "[I", Cond.fieldLink RX1 21 "InsideOutWords$State" "slotOf" "[I", Cond.fieldLink RX1 24 "InsideOutWords$State" "writesHere" "[I", Cond.fieldLink RX1 27 "InsideOutWords$State" "writesOf" "[I", Cond.fieldLink RX1 30 "InsideOutWords$State" "movesOf" "[I"]
def wsX0_keep_r2 : List Cond := [Cond.fieldLink RX1 33 "InsideOutWords$State" "settings" "[I", Cond.fieldLink RX1 42 "InsideOutWords$State" "writes" "I", Cond.fieldLink RX1 46 "InsideOutWords$State" "changes" "I", Cond.fieldLink RX1 49 "InsideOutWords$State" "plainChanges" "I", Cond.fieldLink RX1 52 "InsideOutWords$State" "moves" "I", Cond.fieldLink RX1 55 "InsideOutWords$State" "turnedWrites" "I"]
def wsX0_keep : List Cond := .code yX0_keep cX0_keep 2 none :: ((wsX0_keep_r1 ++ wsX0_keep_r2) ++ wsX00 ++ wsX10)
def wsX0_giveBack_r1 : List Cond := [Cond.fieldLink RX0 11 "InsideOutWords$History" "rows" "[LInsideOutWords$State;", Cond.fieldLink RX0 18 "InsideOutWords$History" "size" "I", Cond.methodLink RX0 25 yX0_latest, Cond.instanceMethod yX0_latest, Cond.selects RX0 yX0_latest yX0_latest, Cond.initialized RX0, Cond.code yX0_latest cX0_latest 1 (some .int), Cond.fieldLink RX0 22 "InsideOutWords$History" "oldest" "I", Cond.methodLink RX0 29 yX1_copyFrom, Cond.instanceMethod yX1_copyFrom, Cond.selects RX1 yX1_copyFrom yX1_copyFrom, Cond.initialized RX1, Cond.code yX1_copyFrom cX1_copyFrom 2 none, Cond.fieldLink RX1 9 "InsideOutWords$State" "held" "[I", Cond.methodLink RX1 36 arraycopyName, Cond.native arraycopyName, Cond.static arraycopyName, Cond.initialized "java/lang/System", Cond.fieldLink RX1 15 "InsideOutWords$State" "worn" "[I", Cond.fieldLink RX1 18 "InsideOutWords$State" "wordIn" "[I", Cond.fieldLink RX1 21 "InsideOutWords$State" "slotOf" "[I", Cond.fieldLink RX1 24 "InsideOutWords$State" "writesHere" "[I", Cond.fieldLink RX1 27 "InsideOutWords$State" "writesOf" "[I", Cond.fieldLink RX1 30 "InsideOutWords$State" "movesOf" "[I"]
def wsX0_giveBack_r2 : List Cond := [Cond.fieldLink RX1 33 "InsideOutWords$State" "settings" "[I", Cond.fieldLink RX1 42 "InsideOutWords$State" "writes" "I", Cond.fieldLink RX1 46 "InsideOutWords$State" "changes" "I", Cond.fieldLink RX1 49 "InsideOutWords$State" "plainChanges" "I", Cond.fieldLink RX1 52 "InsideOutWords$State" "moves" "I", Cond.fieldLink RX1 55 "InsideOutWords$State" "turnedWrites" "I"]
def wsX0_giveBack : List Cond := .code yX0_giveBack cX0_giveBack 2 none :: ((wsX0_giveBack_r1 ++ wsX0_giveBack_r2) ++ wsX00 ++ wsX10)
def wsX1_wornAt : List Cond := .code yX1_wornAt cX1_wornAt 3 (some .int) :: ([.fieldLink RX1 15 "InsideOutWords$State" "worn" "[I"] ++ wsX10)
def wsX1_wornTogether : List Cond := .code yX1_wornTogether cX1_wornTogether 5 (some .int) :: ([.fieldLink RX1 15 "InsideOutWords$State" "worn" "[I"] ++ wsX10)
def wsX1_mostWorn : List Cond := .code yX1_mostWorn cX1_mostWorn 5 (some .int) :: ([.fieldLink RX1 15 "InsideOutWords$State" "worn" "[I", .methodLink RX1 58 Lib.Math.max.name, .static Lib.Math.max.name, .initialized "java/lang/Math", .code Lib.Math.max.name Lib.Math.max.code 2 (some .int)] ++ wsX10)
def wsX1_stuckIn : List Cond := .code yX1_stuckIn cX1_stuckIn 5 (some .int) :: ([.fieldLink RX1 15 "InsideOutWords$State" "worn" "[I", .fieldLink RX1 33 "InsideOutWords$State" "settings" "[I"] ++ wsX10)
def wsJ6_bitCount_0f7a4 : List Cond := .code yJ6_bitCount_0f7a4 cJ6_bitCount_0f7a4 1 (some .int) :: ([.constant RJ6 265 (1431655765), .constant RJ6 266 (858993459), .constant RJ6 267 (252645135)])
def wsX1_stuckCells : List Cond := .code yX1_stuckCells cX1_stuckCells 3 (some .int) :: ([.methodLink RX1 64 yX1_stuckIn, .instanceMethod yX1_stuckIn, .selects RX1 yX1_stuckIn yX1_stuckIn, .initialized RX1, .code yX1_stuckIn cX1_stuckIn 5 (some .int), .fieldLink RX1 15 "InsideOutWords$State" "worn" "[I", .fieldLink RX1 33 "InsideOutWords$State" "settings" "[I", .methodLink RX1 68 yJ6_bitCount_0f7a4, .static yJ6_bitCount_0f7a4, .initialized RJ6, .code yJ6_bitCount_0f7a4 cJ6_bitCount_0f7a4 1 (some .int), .constant RJ6 265 (1431655765), .constant RJ6 266 (858993459), .constant RJ6 267 (252645135)] ++ wsX10)
def wsX1_numberIn : List Cond := .code yX1_numberIn cX1_numberIn 3 (some .int) :: ([.fieldLink RX1 9 "InsideOutWords$State" "held" "[I"] ++ wsX10)
def wsX1_numberOf : List Cond := .code yX1_numberOf cX1_numberOf 2 (some .int) :: ([.fieldLink RX1 21 "InsideOutWords$State" "slotOf" "[I", .methodLink RX1 73 yX1_numberIn, .instanceMethod yX1_numberIn, .selects RX1 yX1_numberIn yX1_numberIn, .initialized RX1, .code yX1_numberIn cX1_numberIn 3 (some .int), .fieldLink RX1 9 "InsideOutWords$State" "held" "[I"] ++ wsX10)
def wsX1_sumOfWords : List Cond := .code yX1_sumOfWords cX1_sumOfWords 3 (some .int) :: ([.methodLink RX1 76 yX1_numberOf, .instanceMethod yX1_numberOf, .selects RX1 yX1_numberOf yX1_numberOf, .initialized RX1, .code yX1_numberOf cX1_numberOf 2 (some .int), .fieldLink RX1 21 "InsideOutWords$State" "slotOf" "[I", .methodLink RX1 73 yX1_numberIn, .instanceMethod yX1_numberIn, .selects RX1 yX1_numberIn yX1_numberIn, .code yX1_numberIn cX1_numberIn 3 (some .int), .fieldLink RX1 9 "InsideOutWords$State" "held" "[I"] ++ wsX10)
def wsX1_isHot : List Cond := .code yX1_isHot cX1_isHot 2 (some .boolean) :: ([.fieldLink RX1 33 "InsideOutWords$State" "settings" "[I", .fieldLink RX1 24 "InsideOutWords$State" "writesHere" "[I"] ++ wsX10)
def wsX1_hotWords : List Cond := .code yX1_hotWords cX1_hotWords 3 (some .int) :: ([.methodLink RX1 79 yX1_isHot, .instanceMethod yX1_isHot, .selects RX1 yX1_isHot yX1_isHot, .initialized RX1, .code yX1_isHot cX1_isHot 2 (some .boolean), .fieldLink RX1 33 "InsideOutWords$State" "settings" "[I", .fieldLink RX1 24 "InsideOutWords$State" "writesHere" "[I"] ++ wsX10)
def wsX1_wayIn : List Cond := .code yX1_wayIn cX1_wayIn 10 (some .int) :: ([.fieldLink RX1 9 "InsideOutWords$State" "held" "[I", .methodLink RX1 64 yX1_stuckIn, .instanceMethod yX1_stuckIn, .selects RX1 yX1_stuckIn yX1_stuckIn, .initialized RX1, .code yX1_stuckIn cX1_stuckIn 5 (some .int), .fieldLink RX1 15 "InsideOutWords$State" "worn" "[I", .fieldLink RX1 33 "InsideOutWords$State" "settings" "[I", .methodLink RX1 68 yJ6_bitCount_0f7a4, .static yJ6_bitCount_0f7a4, .initialized RJ6, .code yJ6_bitCount_0f7a4 cJ6_bitCount_0f7a4 1 (some .int), .constant RJ6 265 (1431655765), .constant RJ6 266 (858993459), .constant RJ6 267 (252645135)] ++ wsX10)
def wsX1_lessWorn : List Cond := .code yX1_lessWorn cX1_lessWorn 3 (some .int) :: ([.methodLink RX1 83 yX1_wornTogether, .instanceMethod yX1_wornTogether, .selects RX1 yX1_wornTogether yX1_wornTogether, .initialized RX1, .code yX1_wornTogether cX1_wornTogether 5 (some .int), .fieldLink RX1 15 "InsideOutWords$State" "worn" "[I"] ++ wsX10)
def wsX1_leastWornFree : List Cond := .code yX1_leastWornFree cX1_leastWornFree 3 (some .int) :: ([.fieldLink RX1 18 "InsideOutWords$State" "wordIn" "[I", .methodLink RX1 86 yX1_lessWorn, .instanceMethod yX1_lessWorn, .selects RX1 yX1_lessWorn yX1_lessWorn, .initialized RX1, .code yX1_lessWorn cX1_lessWorn 3 (some .int), .methodLink RX1 83 yX1_wornTogether, .instanceMethod yX1_wornTogether, .selects RX1 yX1_wornTogether yX1_wornTogether, .code yX1_wornTogether cX1_wornTogether 5 (some .int), .fieldLink RX1 15 "InsideOutWords$State" "worn" "[I"] ++ wsX10)
def wsX1_leastWornFreeFor_r1 : List Cond := [Cond.fieldLink RX1 18 "InsideOutWords$State" "wordIn" "[I", Cond.methodLink RX1 89 yX1_wayIn, Cond.instanceMethod yX1_wayIn, Cond.selects RX1 yX1_wayIn yX1_wayIn, Cond.initialized RX1, Cond.code yX1_wayIn cX1_wayIn 10 (some .int), Cond.fieldLink RX1 9 "InsideOutWords$State" "held" "[I", Cond.methodLink RX1 64 yX1_stuckIn, Cond.instanceMethod yX1_stuckIn, Cond.selects RX1 yX1_stuckIn yX1_stuckIn, Cond.code yX1_stuckIn cX1_stuckIn 5 (some .int), Cond.fieldLink RX1 15 "InsideOutWords$State" "worn" "[I", Cond.fieldLink RX1 33 "InsideOutWords$State" "settings" "[I", Cond.methodLink RX1 68 yJ6_bitCount_0f7a4, Cond.static yJ6_bitCount_0f7a4, Cond.initialized RJ6, Cond.code yJ6_bitCount_0f7a4 cJ6_bitCount_0f7a4 1 (some .int), Cond.constant RJ6 265 (1431655765), Cond.constant RJ6 266 (858993459), Cond.constant RJ6 267 (252645135), Cond.methodLink RX1 86 yX1_lessWorn, Cond.instanceMethod yX1_lessWorn, Cond.selects RX1 yX1_lessWorn yX1_lessWorn, Cond.code yX1_lessWorn cX1_lessWorn 3 (some .int)]
def wsX1_leastWornFreeFor_r2 : List Cond := [Cond.methodLink RX1 83 yX1_wornTogether, Cond.instanceMethod yX1_wornTogether, Cond.selects RX1 yX1_wornTogether yX1_wornTogether, Cond.code yX1_wornTogether cX1_wornTogether 5 (some .int)]
def wsX1_leastWornFreeFor : List Cond := .code yX1_leastWornFreeFor cX1_leastWornFreeFor 4 (some .int) :: ((wsX1_leastWornFreeFor_r1 ++ wsX1_leastWornFreeFor_r2) ++ wsX10)
def wsX1_targetOf_r1 : List Cond := [Cond.fieldLink RX1 21 "InsideOutWords$State" "slotOf" "[I", Cond.methodLink RX1 89 yX1_wayIn, Cond.instanceMethod yX1_wayIn, Cond.selects RX1 yX1_wayIn yX1_wayIn, Cond.initialized RX1, Cond.code yX1_wayIn cX1_wayIn 10 (some .int), Cond.fieldLink RX1 9 "InsideOutWords$State" "held" "[I", Cond.methodLink RX1 64 yX1_stuckIn, Cond.instanceMethod yX1_stuckIn, Cond.selects RX1 yX1_stuckIn yX1_stuckIn, Cond.code yX1_stuckIn cX1_stuckIn 5 (some .int), Cond.fieldLink RX1 15 "InsideOutWords$State" "worn" "[I", Cond.fieldLink RX1 33 "InsideOutWords$State" "settings" "[I", Cond.methodLink RX1 68 yJ6_bitCount_0f7a4, Cond.static yJ6_bitCount_0f7a4, Cond.initialized RJ6, Cond.code yJ6_bitCount_0f7a4 cJ6_bitCount_0f7a4 1 (some .int), Cond.constant RJ6 265 (1431655765), Cond.constant RJ6 266 (858993459), Cond.constant RJ6 267 (252645135), Cond.methodLink RX1 79 yX1_isHot, Cond.instanceMethod yX1_isHot, Cond.selects RX1 yX1_isHot yX1_isHot, Cond.code yX1_isHot cX1_isHot 2 (some .boolean)]
def wsX1_targetOf_r2 : List Cond := [Cond.fieldLink RX1 24 "InsideOutWords$State" "writesHere" "[I", Cond.methodLink RX1 92 yX1_leastWornFreeFor, Cond.instanceMethod yX1_leastWornFreeFor, Cond.selects RX1 yX1_leastWornFreeFor yX1_leastWornFreeFor, Cond.code yX1_leastWornFreeFor cX1_leastWornFreeFor 4 (some .int), Cond.fieldLink RX1 18 "InsideOutWords$State" "wordIn" "[I", Cond.methodLink RX1 86 yX1_lessWorn, Cond.instanceMethod yX1_lessWorn, Cond.selects RX1 yX1_lessWorn yX1_lessWorn, Cond.code yX1_lessWorn cX1_lessWorn 3 (some .int), Cond.methodLink RX1 83 yX1_wornTogether, Cond.instanceMethod yX1_wornTogether, Cond.selects RX1 yX1_wornTogether yX1_wornTogether, Cond.code yX1_wornTogether cX1_wornTogether 5 (some .int)]
def wsX1_targetOf : List Cond := .code yX1_targetOf cX1_targetOf 6 (some .int) :: ((wsX1_targetOf_r1 ++ wsX1_targetOf_r2) ++ wsX10)
def wsX1_wearCells : List Cond := .code yX1_wearCells cX1_wearCells 5 none :: ([.fieldLink RX1 15 "InsideOutWords$State" "worn" "[I"] ++ wsX10)
def wsX1_settle : List Cond := .code yX1_settle cX1_settle 4 none :: ([.fieldLink RX1 27 "InsideOutWords$State" "writesOf" "[I", .fieldLink RX1 21 "InsideOutWords$State" "slotOf" "[I", .fieldLink RX1 24 "InsideOutWords$State" "writesHere" "[I", .fieldLink RX1 18 "InsideOutWords$State" "wordIn" "[I", .fieldLink RX1 30 "InsideOutWords$State" "movesOf" "[I", .fieldLink RX1 52 "InsideOutWords$State" "moves" "I"] ++ wsX10)
def wsX1_place_r1 : List Cond := [Cond.fieldLink RX1 9 "InsideOutWords$State" "held" "[I", Cond.fieldLink RX1 42 "InsideOutWords$State" "writes" "I", Cond.fieldLink RX1 46 "InsideOutWords$State" "changes" "I", Cond.fieldLink RX1 49 "InsideOutWords$State" "plainChanges" "I", Cond.fieldLink RX1 55 "InsideOutWords$State" "turnedWrites" "I", Cond.methodLink RX1 89 yX1_wayIn, Cond.instanceMethod yX1_wayIn, Cond.selects RX1 yX1_wayIn yX1_wayIn, Cond.initialized RX1, Cond.code yX1_wayIn cX1_wayIn 10 (some .int), Cond.methodLink RX1 64 yX1_stuckIn, Cond.instanceMethod yX1_stuckIn, Cond.selects RX1 yX1_stuckIn yX1_stuckIn, Cond.code yX1_stuckIn cX1_stuckIn 5 (some .int), Cond.fieldLink RX1 15 "InsideOutWords$State" "worn" "[I", Cond.fieldLink RX1 33 "InsideOutWords$State" "settings" "[I", Cond.methodLink RX1 68 yJ6_bitCount_0f7a4, Cond.static yJ6_bitCount_0f7a4, Cond.initialized RJ6, Cond.code yJ6_bitCount_0f7a4 cJ6_bitCount_0f7a4 1 (some .int), Cond.constant RJ6 265 (1431655765), Cond.constant RJ6 266 (858993459), Cond.constant RJ6 267 (252645135), Cond.methodLink RX1 76 yX1_numberOf]
def wsX1_place_r2 : List Cond := [Cond.instanceMethod yX1_numberOf, Cond.selects RX1 yX1_numberOf yX1_numberOf, Cond.code yX1_numberOf cX1_numberOf 2 (some .int), Cond.fieldLink RX1 21 "InsideOutWords$State" "slotOf" "[I", Cond.methodLink RX1 73 yX1_numberIn, Cond.instanceMethod yX1_numberIn, Cond.selects RX1 yX1_numberIn yX1_numberIn, Cond.code yX1_numberIn cX1_numberIn 3 (some .int), Cond.methodLink RX1 95 yX1_wearCells, Cond.instanceMethod yX1_wearCells, Cond.selects RX1 yX1_wearCells yX1_wearCells, Cond.code yX1_wearCells cX1_wearCells 5 none, Cond.methodLink RX1 99 yX1_settle, Cond.instanceMethod yX1_settle, Cond.selects RX1 yX1_settle yX1_settle, Cond.code yX1_settle cX1_settle 4 none, Cond.fieldLink RX1 27 "InsideOutWords$State" "writesOf" "[I", Cond.fieldLink RX1 24 "InsideOutWords$State" "writesHere" "[I", Cond.fieldLink RX1 18 "InsideOutWords$State" "wordIn" "[I", Cond.fieldLink RX1 30 "InsideOutWords$State" "movesOf" "[I", Cond.fieldLink RX1 52 "InsideOutWords$State" "moves" "I"]
def wsX1_place : List Cond := .code yX1_place cX1_place 7 (some .int) :: ((wsX1_place_r1 ++ wsX1_place_r2) ++ wsX10)
def wsX1_placeInTurns_r1 : List Cond := [Cond.methodLink RX1 102 yX1_targetOf, Cond.instanceMethod yX1_targetOf, Cond.selects RX1 yX1_targetOf yX1_targetOf, Cond.initialized RX1, Cond.code yX1_targetOf cX1_targetOf 6 (some .int), Cond.fieldLink RX1 21 "InsideOutWords$State" "slotOf" "[I", Cond.methodLink RX1 89 yX1_wayIn, Cond.instanceMethod yX1_wayIn, Cond.selects RX1 yX1_wayIn yX1_wayIn, Cond.code yX1_wayIn cX1_wayIn 10 (some .int), Cond.fieldLink RX1 9 "InsideOutWords$State" "held" "[I", Cond.methodLink RX1 64 yX1_stuckIn, Cond.instanceMethod yX1_stuckIn, Cond.selects RX1 yX1_stuckIn yX1_stuckIn, Cond.code yX1_stuckIn cX1_stuckIn 5 (some .int), Cond.fieldLink RX1 15 "InsideOutWords$State" "worn" "[I", Cond.fieldLink RX1 33 "InsideOutWords$State" "settings" "[I", Cond.methodLink RX1 68 yJ6_bitCount_0f7a4, Cond.static yJ6_bitCount_0f7a4, Cond.initialized RJ6, Cond.code yJ6_bitCount_0f7a4 cJ6_bitCount_0f7a4 1 (some .int), Cond.constant RJ6 265 (1431655765), Cond.constant RJ6 266 (858993459), Cond.constant RJ6 267 (252645135)]
def wsX1_placeInTurns_r2 : List Cond := [Cond.methodLink RX1 79 yX1_isHot, Cond.instanceMethod yX1_isHot, Cond.selects RX1 yX1_isHot yX1_isHot, Cond.code yX1_isHot cX1_isHot 2 (some .boolean), Cond.fieldLink RX1 24 "InsideOutWords$State" "writesHere" "[I", Cond.methodLink RX1 92 yX1_leastWornFreeFor, Cond.instanceMethod yX1_leastWornFreeFor, Cond.selects RX1 yX1_leastWornFreeFor yX1_leastWornFreeFor, Cond.code yX1_leastWornFreeFor cX1_leastWornFreeFor 4 (some .int), Cond.fieldLink RX1 18 "InsideOutWords$State" "wordIn" "[I", Cond.methodLink RX1 86 yX1_lessWorn, Cond.instanceMethod yX1_lessWorn, Cond.selects RX1 yX1_lessWorn yX1_lessWorn, Cond.code yX1_lessWorn cX1_lessWorn 3 (some .int), Cond.methodLink RX1 83 yX1_wornTogether, Cond.instanceMethod yX1_wornTogether, Cond.selects RX1 yX1_wornTogether yX1_wornTogether, Cond.code yX1_wornTogether cX1_wornTogether 5 (some .int), Cond.methodLink RX1 105 yX1_place, Cond.instanceMethod yX1_place, Cond.selects RX1 yX1_place yX1_place, Cond.code yX1_place cX1_place 7 (some .int), Cond.fieldLink RX1 42 "InsideOutWords$State" "writes" "I", Cond.fieldLink RX1 46 "InsideOutWords$State" "changes" "I"]
def wsX1_placeInTurns_r3 : List Cond := [Cond.fieldLink RX1 49 "InsideOutWords$State" "plainChanges" "I", Cond.fieldLink RX1 55 "InsideOutWords$State" "turnedWrites" "I", Cond.methodLink RX1 76 yX1_numberOf, Cond.instanceMethod yX1_numberOf, Cond.selects RX1 yX1_numberOf yX1_numberOf, Cond.code yX1_numberOf cX1_numberOf 2 (some .int), Cond.methodLink RX1 73 yX1_numberIn, Cond.instanceMethod yX1_numberIn, Cond.selects RX1 yX1_numberIn yX1_numberIn, Cond.code yX1_numberIn cX1_numberIn 3 (some .int), Cond.methodLink RX1 95 yX1_wearCells, Cond.instanceMethod yX1_wearCells, Cond.selects RX1 yX1_wearCells yX1_wearCells, Cond.code yX1_wearCells cX1_wearCells 5 none, Cond.methodLink RX1 99 yX1_settle, Cond.instanceMethod yX1_settle, Cond.selects RX1 yX1_settle yX1_settle, Cond.code yX1_settle cX1_settle 4 none, Cond.fieldLink RX1 27 "InsideOutWords$State" "writesOf" "[I", Cond.fieldLink RX1 30 "InsideOutWords$State" "movesOf" "[I", Cond.fieldLink RX1 52 "InsideOutWords$State" "moves" "I"]
def wsX1_placeInTurns : List Cond := .code yX1_placeInTurns cX1_placeInTurns 7 (some .int) :: ((wsX1_placeInTurns_r1 ++ (wsX1_placeInTurns_r2 ++ wsX1_placeInTurns_r3)) ++ wsX10)
def wsX1_swapSlots : List Cond := .code yX1_swapSlots cX1_swapSlots 4 none :: ([.fieldLink RX1 21 "InsideOutWords$State" "slotOf" "[I", .fieldLink RX1 18 "InsideOutWords$State" "wordIn" "[I", .fieldLink RX1 24 "InsideOutWords$State" "writesHere" "[I"] ++ wsX10)
def wsX1_lowestOnes : List Cond := .code yX1_lowestOnes cX1_lowestOnes 4 (some .int) :: ([])
def wsX1_lowestHalfwayFrom : List Cond := .code yX1_lowestHalfwayFrom cX1_lowestHalfwayFrom 2 (some .int) :: ([.methodLink RX1 68 yJ6_bitCount_0f7a4, .static yJ6_bitCount_0f7a4, .initialized RJ6, .code yJ6_bitCount_0f7a4 cJ6_bitCount_0f7a4 1 (some .int), .constant RJ6 265 (1431655765), .constant RJ6 266 (858993459), .constant RJ6 267 (252645135), .methodLink RX1 112 yX1_lowestOnes, .static yX1_lowestOnes, .initialized RX1, .code yX1_lowestOnes cX1_lowestOnes 4 (some .int)])
def wsX1_dearestIn_r1 : List Cond := [Cond.methodLink RX1 73 yX1_numberIn, Cond.instanceMethod yX1_numberIn, Cond.selects RX1 yX1_numberIn yX1_numberIn, Cond.initialized RX1, Cond.code yX1_numberIn cX1_numberIn 3 (some .int), Cond.fieldLink RX1 9 "InsideOutWords$State" "held" "[I", Cond.methodLink RX1 64 yX1_stuckIn, Cond.instanceMethod yX1_stuckIn, Cond.selects RX1 yX1_stuckIn yX1_stuckIn, Cond.code yX1_stuckIn cX1_stuckIn 5 (some .int), Cond.fieldLink RX1 15 "InsideOutWords$State" "worn" "[I", Cond.fieldLink RX1 33 "InsideOutWords$State" "settings" "[I", Cond.methodLink RX1 109 yX1_lowestHalfwayFrom, Cond.static yX1_lowestHalfwayFrom, Cond.code yX1_lowestHalfwayFrom cX1_lowestHalfwayFrom 2 (some .int), Cond.methodLink RX1 68 yJ6_bitCount_0f7a4, Cond.static yJ6_bitCount_0f7a4, Cond.initialized RJ6, Cond.code yJ6_bitCount_0f7a4 cJ6_bitCount_0f7a4 1 (some .int), Cond.constant RJ6 265 (1431655765), Cond.constant RJ6 266 (858993459), Cond.constant RJ6 267 (252645135), Cond.methodLink RX1 112 yX1_lowestOnes, Cond.static yX1_lowestOnes]
def wsX1_dearestIn_r2 : List Cond := [Cond.code yX1_lowestOnes cX1_lowestOnes 4 (some .int)]
def wsX1_dearestIn : List Cond := .code yX1_dearestIn cX1_dearestIn 4 (some .int) :: ((wsX1_dearestIn_r1 ++ wsX1_dearestIn_r2) ++ wsX10)
def wsX2_init : List Cond := .code yX2_init cX2_init 1 none :: ([.methodLink RX2 3 objectInit, .instanceMethod objectInit, .code objectInit ⟨#[0xb1]⟩ 1 none, .arrayClass .int, .fieldLink RX2 9 "InsideOutWords$Text" "codes" "[I", .fieldLink RX2 15 "InsideOutWords$Text" "parsedWord" "[I", .fieldLink RX2 18 "InsideOutWords$Text" "parsedNumber" "[I"] ++ wsX20)
def wsX2_add : List Cond := .code yX2_add cX2_add 2 none :: ([.fieldLink RX2 9 "InsideOutWords$Text" "codes" "[I", .fieldLink RX2 21 "InsideOutWords$Text" "length" "I"] ++ wsX20)
def wsX3_isOutside : List Cond := .code yX3_isOutside cX3_isOutside 3 (some .boolean) :: ([])
def wsX2_takesFirstDigit : List Cond := .code yX2_takesFirstDigit cX2_takesFirstDigit 2 (some .boolean) :: ([.fieldLink RX2 28 "InsideOutWords$Text" "parsed" "I", .fieldLink RX2 15 "InsideOutWords$Text" "parsedWord" "[I", .fieldLink RX2 39 "InsideOutWords$Text" "word" "I", .fieldLink RX2 18 "InsideOutWords$Text" "parsedNumber" "[I", .fieldLink RX2 25 "InsideOutWords$Text" "stage" "I", .static yX3_isOutside, .initialized RX3, .code yX3_isOutside cX3_isOutside 3 (some .boolean)] ++ wsX20)
def wsX2_takesInNumber : List Cond := .code yX2_takesInNumber cX2_takesInNumber 6 (some .boolean) :: ([.fieldLink RX2 25 "InsideOutWords$Text" "stage" "I", .fieldLink RX2 28 "InsideOutWords$Text" "parsed" "I", .fieldLink RX2 18 "InsideOutWords$Text" "parsedNumber" "[I", .static yX3_isOutside, .initialized RX3, .code yX3_isOutside cX3_isOutside 3 (some .boolean)] ++ wsX20)
def wsX2_takes : List Cond := .code yX2_takes cX2_takes 2 (some .boolean) :: ([.fieldLink RX2 25 "InsideOutWords$Text" "stage" "I", .fieldLink RX2 39 "InsideOutWords$Text" "word" "I", .static yX3_isOutside, .initialized RX3, .code yX3_isOutside cX3_isOutside 3 (some .boolean), .methodLink RX2 46 yX2_takesFirstDigit, .instanceMethod yX2_takesFirstDigit, .selects RX2 yX2_takesFirstDigit yX2_takesFirstDigit, .initialized RX2, .code yX2_takesFirstDigit cX2_takesFirstDigit 2 (some .boolean), .fieldLink RX2 28 "InsideOutWords$Text" "parsed" "I", .fieldLink RX2 15 "InsideOutWords$Text" "parsedWord" "[I", .fieldLink RX2 18 "InsideOutWords$Text" "parsedNumber" "[I", .methodLink RX2 49 yX2_takesInNumber, .instanceMethod yX2_takesInNumber, .selects RX2 yX2_takesInNumber yX2_takesInNumber, .code yX2_takesInNumber cX2_takesInNumber 6 (some .boolean)] ++ wsX20)
def wsX2_parse : List Cond := .code yX2_parse cX2_parse 2 (some .int) :: ([.fieldLink RX2 25 "InsideOutWords$Text" "stage" "I", .fieldLink RX2 28 "InsideOutWords$Text" "parsed" "I", .fieldLink RX2 21 "InsideOutWords$Text" "length" "I", .fieldLink RX2 9 "InsideOutWords$Text" "codes" "[I", .methodLink RX2 31 yX2_takes, .instanceMethod yX2_takes, .selects RX2 yX2_takes yX2_takes, .initialized RX2, .code yX2_takes cX2_takes 2 (some .boolean), .fieldLink RX2 39 "InsideOutWords$Text" "word" "I", .static yX3_isOutside, .initialized RX3, .code yX3_isOutside cX3_isOutside 3 (some .boolean), .methodLink RX2 46 yX2_takesFirstDigit, .instanceMethod yX2_takesFirstDigit, .selects RX2 yX2_takesFirstDigit yX2_takesFirstDigit, .code yX2_takesFirstDigit cX2_takesFirstDigit 2 (some .boolean), .fieldLink RX2 15 "InsideOutWords$Text" "parsedWord" "[I", .fieldLink RX2 18 "InsideOutWords$Text" "parsedNumber" "[I", .methodLink RX2 49 yX2_takesInNumber, .instanceMethod yX2_takesInNumber, .selects RX2 yX2_takesInNumber yX2_takesInNumber, .code yX2_takesInNumber cX2_takesInNumber 6 (some .boolean)] ++ wsX20)
def wsX2_isComplete_r1 : List Cond := [Cond.fieldLink RX2 21 "InsideOutWords$Text" "length" "I", Cond.fieldLink RX2 25 "InsideOutWords$Text" "stage" "I", Cond.methodLink RX2 35 yX2_parse, Cond.instanceMethod yX2_parse, Cond.selects RX2 yX2_parse yX2_parse, Cond.initialized RX2, Cond.code yX2_parse cX2_parse 2 (some .int), Cond.fieldLink RX2 28 "InsideOutWords$Text" "parsed" "I", Cond.fieldLink RX2 9 "InsideOutWords$Text" "codes" "[I", Cond.methodLink RX2 31 yX2_takes, Cond.instanceMethod yX2_takes, Cond.selects RX2 yX2_takes yX2_takes, Cond.code yX2_takes cX2_takes 2 (some .boolean), Cond.fieldLink RX2 39 "InsideOutWords$Text" "word" "I", Cond.static yX3_isOutside, Cond.initialized RX3, Cond.code yX3_isOutside cX3_isOutside 3 (some .boolean), Cond.methodLink RX2 46 yX2_takesFirstDigit, Cond.instanceMethod yX2_takesFirstDigit, Cond.selects RX2 yX2_takesFirstDigit yX2_takesFirstDigit, Cond.code yX2_takesFirstDigit cX2_takesFirstDigit 2 (some .boolean), Cond.fieldLink RX2 15 "InsideOutWords$Text" "parsedWord" "[I", Cond.fieldLink RX2 18 "InsideOutWords$Text" "parsedNumber" "[I", Cond.methodLink RX2 49 yX2_takesInNumber]
def wsX2_isComplete_r2 : List Cond := [Cond.instanceMethod yX2_takesInNumber, Cond.selects RX2 yX2_takesInNumber yX2_takesInNumber, Cond.code yX2_takesInNumber cX2_takesInNumber 6 (some .boolean)]
def wsX2_isComplete : List Cond := .code yX2_isComplete cX2_isComplete 1 (some .boolean) :: ((wsX2_isComplete_r1 ++ wsX2_isComplete_r2) ++ wsX20)
def wsX2_hashAfter : List Cond := .code yX2_hashAfter cX2_hashAfter 6 (some .long) :: ([.constantLong RX2 52 (31), .fieldLink RX2 21 "InsideOutWords$Text" "length" "I", .fieldLink RX2 9 "InsideOutWords$Text" "codes" "[I"] ++ wsX20)
def wsX3_init_r1 : List Cond := [Cond.methodLink RX3 1 objectInit, Cond.instanceMethod objectInit, Cond.code objectInit ⟨#[0xb1]⟩ 1 none, Cond.classLink RX3 7 RX1, Cond.instantiable RX1 13, Cond.initialized RX1, Cond.fieldLink RX3 10 "InsideOutWords" "now" "LInsideOutWords$State;", Cond.fieldLink RX3 16 "InsideOutWords" "trial" "LInsideOutWords$State;", Cond.classLink RX3 19 RX0, Cond.instantiable RX0 3, Cond.initialized RX0, Cond.fieldLink RX3 22 "InsideOutWords" "history" "LInsideOutWords$History;", Cond.classLink RX3 26 RX2, Cond.instantiable RX2 7, Cond.initialized RX2, Cond.fieldLink RX3 29 "InsideOutWords" "text" "LInsideOutWords$Text;", Cond.methodLink RX3 9 yX1_init, Cond.instanceMethod yX1_init, Cond.code yX1_init cX1_init 2 none, Cond.methodLink RX1 3 objectInit, Cond.arrayClass .int, Cond.fieldLink RX1 9 "InsideOutWords$State" "held" "[I", Cond.fieldLink RX1 15 "InsideOutWords$State" "worn" "[I", Cond.fieldLink RX1 18 "InsideOutWords$State" "wordIn" "[I"]
def wsX3_init_r2 : List Cond := [Cond.fieldLink RX1 21 "InsideOutWords$State" "slotOf" "[I", Cond.fieldLink RX1 24 "InsideOutWords$State" "writesHere" "[I", Cond.fieldLink RX1 27 "InsideOutWords$State" "writesOf" "[I", Cond.fieldLink RX1 30 "InsideOutWords$State" "movesOf" "[I", Cond.fieldLink RX1 33 "InsideOutWords$State" "settings" "[I", Cond.methodLink RX3 21 yX0_init, Cond.instanceMethod yX0_init, Cond.code yX0_init cX0_init 2 none, Cond.methodLink RX0 3 objectInit, Cond.classLink RX0 9 RX1, Cond.fieldLink RX0 11 "InsideOutWords$History" "rows" "[LInsideOutWords$State;", Cond.methodLink RX0 17 yX1_init, Cond.instanceMethod yX2_init, Cond.code yX2_init cX2_init 1 none, Cond.methodLink RX2 3 objectInit, Cond.fieldLink RX2 9 "InsideOutWords$Text" "codes" "[I", Cond.fieldLink RX2 15 "InsideOutWords$Text" "parsedWord" "[I", Cond.fieldLink RX2 18 "InsideOutWords$Text" "parsedNumber" "[I"]
def wsX3_init : List Cond := .code yX3_init cX3_init 1 none :: ((wsX3_init_r1 ++ wsX3_init_r2) ++ wsX10 ++ wsX30 ++ wsX00 ++ wsX20)
def wsX3_needWord : List Cond := .code yX3_needWord cX3_needWord 1 none :: ([.classLink RX3 274 "java/lang/IndexOutOfBoundsException", .initialized "java/lang/IndexOutOfBoundsException", .methodLink RX3 59 yX3_isOutside, .static yX3_isOutside, .initialized RX3, .code yX3_isOutside cX3_isOutside 3 (some .boolean)] ++ (vx_atS RX3 278 "java/lang/IndexOutOfBoundsException" ["java/lang/RuntimeException", "java/lang/Exception"]).filter goodWord)
def wsX3_needNumber : List Cond := .code yX3_needNumber cX3_needNumber 1 none :: ([.classLink RX3 63 "java/lang/IllegalArgumentException", .initialized "java/lang/IllegalArgumentException", .methodLink RX3 59 yX3_isOutside, .static yX3_isOutside, .initialized RX3, .code yX3_isOutside cX3_isOutside 3 (some .boolean)] ++ (vx_atS RX3 67 "java/lang/IllegalArgumentException" ["java/lang/RuntimeException", "java/lang/Exception"]).filter goodWord)
def wsX3_write_r1 : List Cond := [Cond.classLink RX3 44 "java/lang/IllegalStateException", Cond.initialized "java/lang/IllegalStateException", Cond.fieldLink RX3 10 "InsideOutWords" "now" "LInsideOutWords$State;", Cond.fieldLink RX3 22 "InsideOutWords" "history" "LInsideOutWords$History;", Cond.methodLink RX3 33 yX3_needWord, Cond.static yX3_needWord, Cond.initialized RX3, Cond.code yX3_needWord cX3_needWord 1 none, Cond.classLink RX3 274 "java/lang/IndexOutOfBoundsException", Cond.initialized "java/lang/IndexOutOfBoundsException", Cond.methodLink RX3 59 yX3_isOutside, Cond.static yX3_isOutside, Cond.code yX3_isOutside cX3_isOutside 3 (some .boolean), Cond.methodLink RX3 37 yX3_needNumber, Cond.static yX3_needNumber, Cond.code yX3_needNumber cX3_needNumber 1 none, Cond.classLink RX3 63 "java/lang/IllegalArgumentException", Cond.initialized "java/lang/IllegalArgumentException", Cond.methodLink RX3 40 yX1_targetOf, Cond.instanceMethod yX1_targetOf, Cond.selects RX1 yX1_targetOf yX1_targetOf, Cond.initialized RX1, Cond.code yX1_targetOf cX1_targetOf 6 (some .int), Cond.fieldLink RX1 21 "InsideOutWords$State" "slotOf" "[I"]
def wsX3_write_r2 : List Cond := [Cond.methodLink RX1 89 yX1_wayIn, Cond.instanceMethod yX1_wayIn, Cond.selects RX1 yX1_wayIn yX1_wayIn, Cond.code yX1_wayIn cX1_wayIn 10 (some .int), Cond.fieldLink RX1 9 "InsideOutWords$State" "held" "[I", Cond.methodLink RX1 64 yX1_stuckIn, Cond.instanceMethod yX1_stuckIn, Cond.selects RX1 yX1_stuckIn yX1_stuckIn, Cond.code yX1_stuckIn cX1_stuckIn 5 (some .int), Cond.fieldLink RX1 15 "InsideOutWords$State" "worn" "[I", Cond.fieldLink RX1 33 "InsideOutWords$State" "settings" "[I", Cond.methodLink RX1 68 yJ6_bitCount_0f7a4, Cond.static yJ6_bitCount_0f7a4, Cond.initialized RJ6, Cond.code yJ6_bitCount_0f7a4 cJ6_bitCount_0f7a4 1 (some .int), Cond.constant RJ6 265 (1431655765), Cond.constant RJ6 266 (858993459), Cond.constant RJ6 267 (252645135), Cond.methodLink RX1 79 yX1_isHot, Cond.instanceMethod yX1_isHot, Cond.selects RX1 yX1_isHot yX1_isHot, Cond.code yX1_isHot cX1_isHot 2 (some .boolean), Cond.fieldLink RX1 24 "InsideOutWords$State" "writesHere" "[I", Cond.methodLink RX1 92 yX1_leastWornFreeFor]
def wsX3_write_r3 : List Cond := [Cond.instanceMethod yX1_leastWornFreeFor, Cond.selects RX1 yX1_leastWornFreeFor yX1_leastWornFreeFor, Cond.code yX1_leastWornFreeFor cX1_leastWornFreeFor 4 (some .int), Cond.fieldLink RX1 18 "InsideOutWords$State" "wordIn" "[I", Cond.methodLink RX1 86 yX1_lessWorn, Cond.instanceMethod yX1_lessWorn, Cond.selects RX1 yX1_lessWorn yX1_lessWorn, Cond.code yX1_lessWorn cX1_lessWorn 3 (some .int), Cond.methodLink RX1 83 yX1_wornTogether, Cond.instanceMethod yX1_wornTogether, Cond.selects RX1 yX1_wornTogether yX1_wornTogether, Cond.code yX1_wornTogether cX1_wornTogether 5 (some .int), Cond.methodLink RX3 51 yX0_keep, Cond.instanceMethod yX0_keep, Cond.selects RX0 yX0_keep yX0_keep, Cond.initialized RX0, Cond.code yX0_keep cX0_keep 2 none, Cond.fieldLink RX0 18 "InsideOutWords$History" "size" "I", Cond.fieldLink RX0 22 "InsideOutWords$History" "oldest" "I", Cond.fieldLink RX0 11 "InsideOutWords$History" "rows" "[LInsideOutWords$State;", Cond.methodLink RX0 25 yX0_latest, Cond.instanceMethod yX0_latest, Cond.selects RX0 yX0_latest yX0_latest, Cond.code yX0_latest cX0_latest 1 (some .int)]
def wsX3_write_r4 : List Cond := [Cond.methodLink RX0 29 yX1_copyFrom, Cond.instanceMethod yX1_copyFrom, Cond.selects RX1 yX1_copyFrom yX1_copyFrom, Cond.code yX1_copyFrom cX1_copyFrom 2 none, Cond.methodLink RX1 36 arraycopyName, Cond.native arraycopyName, Cond.static arraycopyName, Cond.initialized "java/lang/System", Cond.fieldLink RX1 27 "InsideOutWords$State" "writesOf" "[I", Cond.fieldLink RX1 30 "InsideOutWords$State" "movesOf" "[I", Cond.fieldLink RX1 42 "InsideOutWords$State" "writes" "I", Cond.fieldLink RX1 46 "InsideOutWords$State" "changes" "I", Cond.fieldLink RX1 49 "InsideOutWords$State" "plainChanges" "I", Cond.fieldLink RX1 52 "InsideOutWords$State" "moves" "I", Cond.fieldLink RX1 55 "InsideOutWords$State" "turnedWrites" "I", Cond.methodLink RX3 55 yX1_place, Cond.instanceMethod yX1_place, Cond.selects RX1 yX1_place yX1_place, Cond.code yX1_place cX1_place 7 (some .int), Cond.methodLink RX1 76 yX1_numberOf, Cond.instanceMethod yX1_numberOf, Cond.selects RX1 yX1_numberOf yX1_numberOf, Cond.code yX1_numberOf cX1_numberOf 2 (some .int), Cond.methodLink RX1 73 yX1_numberIn]
def wsX3_write_r5 : List Cond := [Cond.instanceMethod yX1_numberIn, Cond.selects RX1 yX1_numberIn yX1_numberIn, Cond.code yX1_numberIn cX1_numberIn 3 (some .int), Cond.methodLink RX1 95 yX1_wearCells, Cond.instanceMethod yX1_wearCells, Cond.selects RX1 yX1_wearCells yX1_wearCells, Cond.code yX1_wearCells cX1_wearCells 5 none, Cond.methodLink RX1 99 yX1_settle, Cond.instanceMethod yX1_settle, Cond.selects RX1 yX1_settle yX1_settle, Cond.code yX1_settle cX1_settle 4 none]
def wsX3_write : List Cond := .code yX3_write cX3_write 4 (some .int) :: ((wsX3_write_r1 ++ (wsX3_write_r2 ++ (wsX3_write_r3 ++ (wsX3_write_r4 ++ wsX3_write_r5)))) ++ wsX30 ++ wsX10 ++ wsX00 ++ (vx_atS RX3 48 "java/lang/IllegalStateException" ["java/lang/RuntimeException", "java/lang/Exception"]).filter goodWord ++ (vx_atS RX3 278 "java/lang/IndexOutOfBoundsException" ["java/lang/RuntimeException", "java/lang/Exception"]).filter goodWord ++ (vx_atS RX3 67 "java/lang/IllegalArgumentException" ["java/lang/RuntimeException", "java/lang/Exception"]).filter goodWord)
def wsX3_hammer_r1 : List Cond := [Cond.classLink RX3 63 "java/lang/IllegalArgumentException", Cond.initialized "java/lang/IllegalArgumentException", Cond.fieldLink RX3 22 "InsideOutWords" "history" "LInsideOutWords$History;", Cond.fieldLink RX3 10 "InsideOutWords" "now" "LInsideOutWords$State;", Cond.methodLink RX3 33 yX3_needWord, Cond.static yX3_needWord, Cond.initialized RX3, Cond.code yX3_needWord cX3_needWord 1 none, Cond.classLink RX3 274 "java/lang/IndexOutOfBoundsException", Cond.initialized "java/lang/IndexOutOfBoundsException", Cond.methodLink RX3 59 yX3_isOutside, Cond.static yX3_isOutside, Cond.code yX3_isOutside cX3_isOutside 3 (some .boolean), Cond.methodLink RX3 37 yX3_needNumber, Cond.static yX3_needNumber, Cond.code yX3_needNumber cX3_needNumber 1 none, Cond.methodLink RX3 51 yX0_keep, Cond.instanceMethod yX0_keep, Cond.selects RX0 yX0_keep yX0_keep, Cond.initialized RX0, Cond.code yX0_keep cX0_keep 2 none, Cond.fieldLink RX0 18 "InsideOutWords$History" "size" "I", Cond.fieldLink RX0 22 "InsideOutWords$History" "oldest" "I", Cond.fieldLink RX0 11 "InsideOutWords$History" "rows" "[LInsideOutWords$State;"]
def wsX3_hammer_r2 : List Cond := [Cond.methodLink RX0 25 yX0_latest, Cond.instanceMethod yX0_latest, Cond.selects RX0 yX0_latest yX0_latest, Cond.code yX0_latest cX0_latest 1 (some .int), Cond.methodLink RX0 29 yX1_copyFrom, Cond.instanceMethod yX1_copyFrom, Cond.selects RX1 yX1_copyFrom yX1_copyFrom, Cond.initialized RX1, Cond.code yX1_copyFrom cX1_copyFrom 2 none, Cond.fieldLink RX1 9 "InsideOutWords$State" "held" "[I", Cond.methodLink RX1 36 arraycopyName, Cond.native arraycopyName, Cond.static arraycopyName, Cond.initialized "java/lang/System", Cond.fieldLink RX1 15 "InsideOutWords$State" "worn" "[I", Cond.fieldLink RX1 18 "InsideOutWords$State" "wordIn" "[I", Cond.fieldLink RX1 21 "InsideOutWords$State" "slotOf" "[I", Cond.fieldLink RX1 24 "InsideOutWords$State" "writesHere" "[I", Cond.fieldLink RX1 27 "InsideOutWords$State" "writesOf" "[I", Cond.fieldLink RX1 30 "InsideOutWords$State" "movesOf" "[I", Cond.fieldLink RX1 33 "InsideOutWords$State" "settings" "[I", Cond.fieldLink RX1 42 "InsideOutWords$State" "writes" "I", Cond.fieldLink RX1 46 "InsideOutWords$State" "changes" "I", Cond.fieldLink RX1 49 "InsideOutWords$State" "plainChanges" "I"]
def wsX3_hammer_r3 : List Cond := [Cond.fieldLink RX1 52 "InsideOutWords$State" "moves" "I", Cond.fieldLink RX1 55 "InsideOutWords$State" "turnedWrites" "I", Cond.methodLink RX3 68 yX1_placeInTurns, Cond.instanceMethod yX1_placeInTurns, Cond.selects RX1 yX1_placeInTurns yX1_placeInTurns, Cond.code yX1_placeInTurns cX1_placeInTurns 7 (some .int), Cond.methodLink RX1 102 yX1_targetOf, Cond.instanceMethod yX1_targetOf, Cond.selects RX1 yX1_targetOf yX1_targetOf, Cond.code yX1_targetOf cX1_targetOf 6 (some .int), Cond.methodLink RX1 89 yX1_wayIn, Cond.instanceMethod yX1_wayIn, Cond.selects RX1 yX1_wayIn yX1_wayIn, Cond.code yX1_wayIn cX1_wayIn 10 (some .int), Cond.methodLink RX1 64 yX1_stuckIn, Cond.instanceMethod yX1_stuckIn, Cond.selects RX1 yX1_stuckIn yX1_stuckIn, Cond.code yX1_stuckIn cX1_stuckIn 5 (some .int), Cond.methodLink RX1 68 yJ6_bitCount_0f7a4, Cond.static yJ6_bitCount_0f7a4, Cond.initialized RJ6, Cond.code yJ6_bitCount_0f7a4 cJ6_bitCount_0f7a4 1 (some .int), Cond.constant RJ6 265 (1431655765), Cond.constant RJ6 266 (858993459)]
def wsX3_hammer_r4 : List Cond := [Cond.constant RJ6 267 (252645135), Cond.methodLink RX1 79 yX1_isHot, Cond.instanceMethod yX1_isHot, Cond.selects RX1 yX1_isHot yX1_isHot, Cond.code yX1_isHot cX1_isHot 2 (some .boolean), Cond.methodLink RX1 92 yX1_leastWornFreeFor, Cond.instanceMethod yX1_leastWornFreeFor, Cond.selects RX1 yX1_leastWornFreeFor yX1_leastWornFreeFor, Cond.code yX1_leastWornFreeFor cX1_leastWornFreeFor 4 (some .int), Cond.methodLink RX1 86 yX1_lessWorn, Cond.instanceMethod yX1_lessWorn, Cond.selects RX1 yX1_lessWorn yX1_lessWorn, Cond.code yX1_lessWorn cX1_lessWorn 3 (some .int), Cond.methodLink RX1 83 yX1_wornTogether, Cond.instanceMethod yX1_wornTogether, Cond.selects RX1 yX1_wornTogether yX1_wornTogether, Cond.code yX1_wornTogether cX1_wornTogether 5 (some .int), Cond.methodLink RX1 105 yX1_place, Cond.instanceMethod yX1_place, Cond.selects RX1 yX1_place yX1_place, Cond.code yX1_place cX1_place 7 (some .int), Cond.methodLink RX1 76 yX1_numberOf, Cond.instanceMethod yX1_numberOf, Cond.selects RX1 yX1_numberOf yX1_numberOf]
def wsX3_hammer_r5 : List Cond := [Cond.code yX1_numberOf cX1_numberOf 2 (some .int), Cond.methodLink RX1 73 yX1_numberIn, Cond.instanceMethod yX1_numberIn, Cond.selects RX1 yX1_numberIn yX1_numberIn, Cond.code yX1_numberIn cX1_numberIn 3 (some .int), Cond.methodLink RX1 95 yX1_wearCells, Cond.instanceMethod yX1_wearCells, Cond.selects RX1 yX1_wearCells yX1_wearCells, Cond.code yX1_wearCells cX1_wearCells 5 none, Cond.methodLink RX1 99 yX1_settle, Cond.instanceMethod yX1_settle, Cond.selects RX1 yX1_settle yX1_settle, Cond.code yX1_settle cX1_settle 4 none]
def wsX3_hammer : List Cond := .code yX3_hammer cX3_hammer 4 (some .int) :: ((wsX3_hammer_r1 ++ (wsX3_hammer_r2 ++ (wsX3_hammer_r3 ++ (wsX3_hammer_r4 ++ wsX3_hammer_r5)))) ++ wsX30 ++ wsX00 ++ wsX10 ++ (vx_atS RX3 67 "java/lang/IllegalArgumentException" ["java/lang/RuntimeException", "java/lang/Exception"]).filter goodWord ++ (vx_atS RX3 278 "java/lang/IndexOutOfBoundsException" ["java/lang/RuntimeException", "java/lang/Exception"]).filter goodWord)
def wsX3_exchange_r1 : List Cond := [Cond.fieldLink RX3 22 "InsideOutWords" "history" "LInsideOutWords$History;", Cond.fieldLink RX3 10 "InsideOutWords" "now" "LInsideOutWords$State;", Cond.fieldLink RX3 75 "InsideOutWords$State" "slotOf" "[I", Cond.methodLink RX3 33 yX3_needWord, Cond.static yX3_needWord, Cond.initialized RX3, Cond.code yX3_needWord cX3_needWord 1 none, Cond.classLink RX3 274 "java/lang/IndexOutOfBoundsException", Cond.initialized "java/lang/IndexOutOfBoundsException", Cond.methodLink RX3 59 yX3_isOutside, Cond.static yX3_isOutside, Cond.code yX3_isOutside cX3_isOutside 3 (some .boolean), Cond.methodLink RX3 51 yX0_keep, Cond.instanceMethod yX0_keep, Cond.selects RX0 yX0_keep yX0_keep, Cond.initialized RX0, Cond.code yX0_keep cX0_keep 2 none, Cond.fieldLink RX0 18 "InsideOutWords$History" "size" "I", Cond.fieldLink RX0 22 "InsideOutWords$History" "oldest" "I", Cond.fieldLink RX0 11 "InsideOutWords$History" "rows" "[LInsideOutWords$State;", Cond.methodLink RX0 25 yX0_latest, Cond.instanceMethod yX0_latest, Cond.selects RX0 yX0_latest yX0_latest, Cond.code yX0_latest cX0_latest 1 (some .int)]
def wsX3_exchange_r2 : List Cond := [Cond.methodLink RX0 29 yX1_copyFrom, Cond.instanceMethod yX1_copyFrom, Cond.selects RX1 yX1_copyFrom yX1_copyFrom, Cond.initialized RX1, Cond.code yX1_copyFrom cX1_copyFrom 2 none, Cond.fieldLink RX1 9 "InsideOutWords$State" "held" "[I", Cond.methodLink RX1 36 arraycopyName, Cond.native arraycopyName, Cond.static arraycopyName, Cond.initialized "java/lang/System", Cond.fieldLink RX1 15 "InsideOutWords$State" "worn" "[I", Cond.fieldLink RX1 18 "InsideOutWords$State" "wordIn" "[I", Cond.fieldLink RX1 21 "InsideOutWords$State" "slotOf" "[I", Cond.fieldLink RX1 24 "InsideOutWords$State" "writesHere" "[I", Cond.fieldLink RX1 27 "InsideOutWords$State" "writesOf" "[I", Cond.fieldLink RX1 30 "InsideOutWords$State" "movesOf" "[I", Cond.fieldLink RX1 33 "InsideOutWords$State" "settings" "[I", Cond.fieldLink RX1 42 "InsideOutWords$State" "writes" "I", Cond.fieldLink RX1 46 "InsideOutWords$State" "changes" "I", Cond.fieldLink RX1 49 "InsideOutWords$State" "plainChanges" "I", Cond.fieldLink RX1 52 "InsideOutWords$State" "moves" "I", Cond.fieldLink RX1 55 "InsideOutWords$State" "turnedWrites" "I", Cond.methodLink RX3 71 yX1_swapSlots, Cond.instanceMethod yX1_swapSlots]
def wsX3_exchange_r3 : List Cond := [Cond.selects RX1 yX1_swapSlots yX1_swapSlots, Cond.code yX1_swapSlots cX1_swapSlots 4 none]
def wsX3_exchange : List Cond := .code yX3_exchange cX3_exchange 3 (some .int) :: ((wsX3_exchange_r1 ++ (wsX3_exchange_r2 ++ wsX3_exchange_r3)) ++ wsX30 ++ wsX10 ++ wsX00 ++ (vx_atS RX3 278 "java/lang/IndexOutOfBoundsException" ["java/lang/RuntimeException", "java/lang/Exception"]).filter goodWord)
def wsX3_needSlot : List Cond := .code yX3_needSlot cX3_needSlot 1 none :: ([.classLink RX3 274 "java/lang/IndexOutOfBoundsException", .initialized "java/lang/IndexOutOfBoundsException", .methodLink RX3 59 yX3_isOutside, .static yX3_isOutside, .initialized RX3, .code yX3_isOutside cX3_isOutside 3 (some .boolean)] ++ (vx_atS RX3 278 "java/lang/IndexOutOfBoundsException" ["java/lang/RuntimeException", "java/lang/Exception"]).filter goodWord)
def wsX3_needCell : List Cond := .code yX3_needCell cX3_needCell 1 none :: ([.classLink RX3 274 "java/lang/IndexOutOfBoundsException", .initialized "java/lang/IndexOutOfBoundsException", .methodLink RX3 59 yX3_isOutside, .static yX3_isOutside, .initialized RX3, .code yX3_isOutside cX3_isOutside 3 (some .boolean)] ++ (vx_atS RX3 278 "java/lang/IndexOutOfBoundsException" ["java/lang/RuntimeException", "java/lang/Exception"]).filter goodWord)
def wsX3_wear_r1 : List Cond := [Cond.classLink RX3 63 "java/lang/IllegalArgumentException", Cond.initialized "java/lang/IllegalArgumentException", Cond.classLink RX3 44 "java/lang/IllegalStateException", Cond.initialized "java/lang/IllegalStateException", Cond.fieldLink RX3 10 "InsideOutWords" "now" "LInsideOutWords$State;", Cond.constant RX3 90 (99999), Cond.fieldLink RX3 22 "InsideOutWords" "history" "LInsideOutWords$History;", Cond.fieldLink RX3 93 "InsideOutWords$State" "worn" "[I", Cond.methodLink RX3 79 yX3_needSlot, Cond.static yX3_needSlot, Cond.initialized RX3, Cond.code yX3_needSlot cX3_needSlot 1 none, Cond.classLink RX3 274 "java/lang/IndexOutOfBoundsException", Cond.initialized "java/lang/IndexOutOfBoundsException", Cond.methodLink RX3 59 yX3_isOutside, Cond.static yX3_isOutside, Cond.code yX3_isOutside cX3_isOutside 3 (some .boolean), Cond.methodLink RX3 82 yX3_needCell, Cond.static yX3_needCell, Cond.code yX3_needCell cX3_needCell 1 none, Cond.methodLink RX3 87 yX1_wornAt, Cond.instanceMethod yX1_wornAt, Cond.selects RX1 yX1_wornAt yX1_wornAt, Cond.initialized RX1]
def wsX3_wear_r2 : List Cond := [Cond.code yX1_wornAt cX1_wornAt 3 (some .int), Cond.fieldLink RX1 15 "InsideOutWords$State" "worn" "[I", Cond.methodLink RX3 51 yX0_keep, Cond.instanceMethod yX0_keep, Cond.selects RX0 yX0_keep yX0_keep, Cond.initialized RX0, Cond.code yX0_keep cX0_keep 2 none, Cond.fieldLink RX0 18 "InsideOutWords$History" "size" "I", Cond.fieldLink RX0 22 "InsideOutWords$History" "oldest" "I", Cond.fieldLink RX0 11 "InsideOutWords$History" "rows" "[LInsideOutWords$State;", Cond.methodLink RX0 25 yX0_latest, Cond.instanceMethod yX0_latest, Cond.selects RX0 yX0_latest yX0_latest, Cond.code yX0_latest cX0_latest 1 (some .int), Cond.methodLink RX0 29 yX1_copyFrom, Cond.instanceMethod yX1_copyFrom, Cond.selects RX1 yX1_copyFrom yX1_copyFrom, Cond.code yX1_copyFrom cX1_copyFrom 2 none, Cond.fieldLink RX1 9 "InsideOutWords$State" "held" "[I", Cond.methodLink RX1 36 arraycopyName, Cond.native arraycopyName, Cond.static arraycopyName, Cond.initialized "java/lang/System", Cond.fieldLink RX1 18 "InsideOutWords$State" "wordIn" "[I"]
def wsX3_wear_r3 : List Cond := [Cond.fieldLink RX1 21 "InsideOutWords$State" "slotOf" "[I", Cond.fieldLink RX1 24 "InsideOutWords$State" "writesHere" "[I", Cond.fieldLink RX1 27 "InsideOutWords$State" "writesOf" "[I", Cond.fieldLink RX1 30 "InsideOutWords$State" "movesOf" "[I", Cond.fieldLink RX1 33 "InsideOutWords$State" "settings" "[I", Cond.fieldLink RX1 42 "InsideOutWords$State" "writes" "I", Cond.fieldLink RX1 46 "InsideOutWords$State" "changes" "I", Cond.fieldLink RX1 49 "InsideOutWords$State" "plainChanges" "I", Cond.fieldLink RX1 52 "InsideOutWords$State" "moves" "I", Cond.fieldLink RX1 55 "InsideOutWords$State" "turnedWrites" "I"]
def wsX3_wear : List Cond := .code yX3_wear cX3_wear 5 (some .int) :: ((wsX3_wear_r1 ++ (wsX3_wear_r2 ++ wsX3_wear_r3)) ++ wsX30 ++ wsX10 ++ wsX00 ++ (vx_atS RX3 67 "java/lang/IllegalArgumentException" ["java/lang/RuntimeException", "java/lang/Exception"]).filter goodWord ++ (vx_atS RX3 48 "java/lang/IllegalStateException" ["java/lang/RuntimeException", "java/lang/Exception"]).filter goodWord ++ (vx_atS RX3 278 "java/lang/IndexOutOfBoundsException" ["java/lang/RuntimeException", "java/lang/Exception"]).filter goodWord)
def wsX3_needSetting : List Cond := .code yX3_needSetting cX3_needSetting 1 none :: ([.classLink RX3 274 "java/lang/IndexOutOfBoundsException", .initialized "java/lang/IndexOutOfBoundsException", .methodLink RX3 59 yX3_isOutside, .static yX3_isOutside, .initialized RX3, .code yX3_isOutside cX3_isOutside 3 (some .boolean)] ++ (vx_atS RX3 278 "java/lang/IndexOutOfBoundsException" ["java/lang/RuntimeException", "java/lang/Exception"]).filter goodWord)
def wsX3_set_r1 : List Cond := [Cond.classLink RX3 63 "java/lang/IllegalArgumentException", Cond.initialized "java/lang/IllegalArgumentException", Cond.fieldLink RX3 22 "InsideOutWords" "history" "LInsideOutWords$History;", Cond.fieldLink RX3 10 "InsideOutWords" "now" "LInsideOutWords$State;", Cond.fieldLink RX3 101 "InsideOutWords$State" "settings" "[I", Cond.methodLink RX3 96 yX3_needSetting, Cond.static yX3_needSetting, Cond.initialized RX3, Cond.code yX3_needSetting cX3_needSetting 1 none, Cond.classLink RX3 274 "java/lang/IndexOutOfBoundsException", Cond.initialized "java/lang/IndexOutOfBoundsException", Cond.methodLink RX3 59 yX3_isOutside, Cond.static yX3_isOutside, Cond.code yX3_isOutside cX3_isOutside 3 (some .boolean), Cond.methodLink RX3 51 yX0_keep, Cond.instanceMethod yX0_keep, Cond.selects RX0 yX0_keep yX0_keep, Cond.initialized RX0, Cond.code yX0_keep cX0_keep 2 none, Cond.fieldLink RX0 18 "InsideOutWords$History" "size" "I", Cond.fieldLink RX0 22 "InsideOutWords$History" "oldest" "I", Cond.fieldLink RX0 11 "InsideOutWords$History" "rows" "[LInsideOutWords$State;", Cond.methodLink RX0 25 yX0_latest, Cond.instanceMethod yX0_latest]
def wsX3_set_r2 : List Cond := [Cond.selects RX0 yX0_latest yX0_latest, Cond.code yX0_latest cX0_latest 1 (some .int), Cond.methodLink RX0 29 yX1_copyFrom, Cond.instanceMethod yX1_copyFrom, Cond.selects RX1 yX1_copyFrom yX1_copyFrom, Cond.initialized RX1, Cond.code yX1_copyFrom cX1_copyFrom 2 none, Cond.fieldLink RX1 9 "InsideOutWords$State" "held" "[I", Cond.methodLink RX1 36 arraycopyName, Cond.native arraycopyName, Cond.static arraycopyName, Cond.initialized "java/lang/System", Cond.fieldLink RX1 15 "InsideOutWords$State" "worn" "[I", Cond.fieldLink RX1 18 "InsideOutWords$State" "wordIn" "[I", Cond.fieldLink RX1 21 "InsideOutWords$State" "slotOf" "[I", Cond.fieldLink RX1 24 "InsideOutWords$State" "writesHere" "[I", Cond.fieldLink RX1 27 "InsideOutWords$State" "writesOf" "[I", Cond.fieldLink RX1 30 "InsideOutWords$State" "movesOf" "[I", Cond.fieldLink RX1 33 "InsideOutWords$State" "settings" "[I", Cond.fieldLink RX1 42 "InsideOutWords$State" "writes" "I", Cond.fieldLink RX1 46 "InsideOutWords$State" "changes" "I", Cond.fieldLink RX1 49 "InsideOutWords$State" "plainChanges" "I", Cond.fieldLink RX1 52 "InsideOutWords$State" "moves" "I", Cond.fieldLink RX1 55 "InsideOutWords$State" "turnedWrites" "I"]
def wsX3_set : List Cond := .code yX3_set cX3_set 5 (some .int) :: ((wsX3_set_r1 ++ wsX3_set_r2) ++ wsX30 ++ wsX10 ++ wsX00 ++ (vx_atS RX3 67 "java/lang/IllegalArgumentException" ["java/lang/RuntimeException", "java/lang/Exception"]).filter goodWord ++ (vx_atS RX3 278 "java/lang/IndexOutOfBoundsException" ["java/lang/RuntimeException", "java/lang/Exception"]).filter goodWord)
def wsX3_append : List Cond := .code yX3_append cX3_append 2 (some .int) :: ([.classLink RX3 63 "java/lang/IllegalArgumentException", .initialized "java/lang/IllegalArgumentException", .classLink RX3 44 "java/lang/IllegalStateException", .initialized "java/lang/IllegalStateException", .fieldLink RX3 29 "InsideOutWords" "text" "LInsideOutWords$Text;", .fieldLink RX3 106 "InsideOutWords$Text" "length" "I", .methodLink RX3 59 yX3_isOutside, .static yX3_isOutside, .initialized RX3, .code yX3_isOutside cX3_isOutside 3 (some .boolean), .methodLink RX3 112 yX2_add, .instanceMethod yX2_add, .selects RX2 yX2_add yX2_add, .initialized RX2, .code yX2_add cX2_add 2 none, .fieldLink RX2 9 "InsideOutWords$Text" "codes" "[I", .fieldLink RX2 21 "InsideOutWords$Text" "length" "I"] ++ wsX30 ++ wsX20 ++ (vx_atS RX3 67 "java/lang/IllegalArgumentException" ["java/lang/RuntimeException", "java/lang/Exception"]).filter goodWord ++ (vx_atS RX3 48 "java/lang/IllegalStateException" ["java/lang/RuntimeException", "java/lang/Exception"]).filter goodWord)
def wsX3_clearBuffer : List Cond := .code yX3_clearBuffer cX3_clearBuffer 2 (some .int) :: ([.fieldLink RX3 29 "InsideOutWords" "text" "LInsideOutWords$Text;", .fieldLink RX3 106 "InsideOutWords$Text" "length" "I"] ++ wsX30 ++ wsX20)
def wsX3_firstError_r1 : List Cond := [Cond.fieldLink RX3 29 "InsideOutWords" "text" "LInsideOutWords$Text;", Cond.methodLink RX3 115 yX2_parse, Cond.instanceMethod yX2_parse, Cond.selects RX2 yX2_parse yX2_parse, Cond.initialized RX2, Cond.code yX2_parse cX2_parse 2 (some .int), Cond.fieldLink RX2 25 "InsideOutWords$Text" "stage" "I", Cond.fieldLink RX2 28 "InsideOutWords$Text" "parsed" "I", Cond.fieldLink RX2 21 "InsideOutWords$Text" "length" "I", Cond.fieldLink RX2 9 "InsideOutWords$Text" "codes" "[I", Cond.methodLink RX2 31 yX2_takes, Cond.instanceMethod yX2_takes, Cond.selects RX2 yX2_takes yX2_takes, Cond.code yX2_takes cX2_takes 2 (some .boolean), Cond.fieldLink RX2 39 "InsideOutWords$Text" "word" "I", Cond.static yX3_isOutside, Cond.initialized RX3, Cond.code yX3_isOutside cX3_isOutside 3 (some .boolean), Cond.methodLink RX2 46 yX2_takesFirstDigit, Cond.instanceMethod yX2_takesFirstDigit, Cond.selects RX2 yX2_takesFirstDigit yX2_takesFirstDigit, Cond.code yX2_takesFirstDigit cX2_takesFirstDigit 2 (some .boolean), Cond.fieldLink RX2 15 "InsideOutWords$Text" "parsedWord" "[I", Cond.fieldLink RX2 18 "InsideOutWords$Text" "parsedNumber" "[I"]
def wsX3_firstError_r2 : List Cond := [Cond.methodLink RX2 49 yX2_takesInNumber, Cond.instanceMethod yX2_takesInNumber, Cond.selects RX2 yX2_takesInNumber yX2_takesInNumber, Cond.code yX2_takesInNumber cX2_takesInNumber 6 (some .boolean)]
def wsX3_firstError : List Cond := .code yX3_firstError cX3_firstError 1 (some .int) :: ((wsX3_firstError_r1 ++ wsX3_firstError_r2) ++ wsX30 ++ wsX20)
def wsX3_placeParsed_r1 : List Cond := [Cond.fieldLink RX3 29 "InsideOutWords" "text" "LInsideOutWords$Text;", Cond.fieldLink RX3 265 "InsideOutWords$Text" "parsed" "I", Cond.fieldLink RX3 268 "InsideOutWords$Text" "parsedWord" "[I", Cond.fieldLink RX3 271 "InsideOutWords$Text" "parsedNumber" "[I", Cond.fieldLink RX3 10 "InsideOutWords" "now" "LInsideOutWords$State;", Cond.methodLink RX3 40 yX1_targetOf, Cond.instanceMethod yX1_targetOf, Cond.selects RX1 yX1_targetOf yX1_targetOf, Cond.initialized RX1, Cond.code yX1_targetOf cX1_targetOf 6 (some .int), Cond.fieldLink RX1 21 "InsideOutWords$State" "slotOf" "[I", Cond.methodLink RX1 89 yX1_wayIn, Cond.instanceMethod yX1_wayIn, Cond.selects RX1 yX1_wayIn yX1_wayIn, Cond.code yX1_wayIn cX1_wayIn 10 (some .int), Cond.fieldLink RX1 9 "InsideOutWords$State" "held" "[I", Cond.methodLink RX1 64 yX1_stuckIn, Cond.instanceMethod yX1_stuckIn, Cond.selects RX1 yX1_stuckIn yX1_stuckIn, Cond.code yX1_stuckIn cX1_stuckIn 5 (some .int), Cond.fieldLink RX1 15 "InsideOutWords$State" "worn" "[I", Cond.fieldLink RX1 33 "InsideOutWords$State" "settings" "[I", Cond.methodLink RX1 68 yJ6_bitCount_0f7a4, Cond.static yJ6_bitCount_0f7a4]
def wsX3_placeParsed_r2 : List Cond := [Cond.initialized RJ6, Cond.code yJ6_bitCount_0f7a4 cJ6_bitCount_0f7a4 1 (some .int), Cond.constant RJ6 265 (1431655765), Cond.constant RJ6 266 (858993459), Cond.constant RJ6 267 (252645135), Cond.methodLink RX1 79 yX1_isHot, Cond.instanceMethod yX1_isHot, Cond.selects RX1 yX1_isHot yX1_isHot, Cond.code yX1_isHot cX1_isHot 2 (some .boolean), Cond.fieldLink RX1 24 "InsideOutWords$State" "writesHere" "[I", Cond.methodLink RX1 92 yX1_leastWornFreeFor, Cond.instanceMethod yX1_leastWornFreeFor, Cond.selects RX1 yX1_leastWornFreeFor yX1_leastWornFreeFor, Cond.code yX1_leastWornFreeFor cX1_leastWornFreeFor 4 (some .int), Cond.fieldLink RX1 18 "InsideOutWords$State" "wordIn" "[I", Cond.methodLink RX1 86 yX1_lessWorn, Cond.instanceMethod yX1_lessWorn, Cond.selects RX1 yX1_lessWorn yX1_lessWorn, Cond.code yX1_lessWorn cX1_lessWorn 3 (some .int), Cond.methodLink RX1 83 yX1_wornTogether, Cond.instanceMethod yX1_wornTogether, Cond.selects RX1 yX1_wornTogether yX1_wornTogether, Cond.code yX1_wornTogether cX1_wornTogether 5 (some .int), Cond.methodLink RX3 55 yX1_place]
def wsX3_placeParsed_r3 : List Cond := [Cond.instanceMethod yX1_place, Cond.selects RX1 yX1_place yX1_place, Cond.code yX1_place cX1_place 7 (some .int), Cond.fieldLink RX1 42 "InsideOutWords$State" "writes" "I", Cond.fieldLink RX1 46 "InsideOutWords$State" "changes" "I", Cond.fieldLink RX1 49 "InsideOutWords$State" "plainChanges" "I", Cond.fieldLink RX1 55 "InsideOutWords$State" "turnedWrites" "I", Cond.methodLink RX1 76 yX1_numberOf, Cond.instanceMethod yX1_numberOf, Cond.selects RX1 yX1_numberOf yX1_numberOf, Cond.code yX1_numberOf cX1_numberOf 2 (some .int), Cond.methodLink RX1 73 yX1_numberIn, Cond.instanceMethod yX1_numberIn, Cond.selects RX1 yX1_numberIn yX1_numberIn, Cond.code yX1_numberIn cX1_numberIn 3 (some .int), Cond.methodLink RX1 95 yX1_wearCells, Cond.instanceMethod yX1_wearCells, Cond.selects RX1 yX1_wearCells yX1_wearCells, Cond.code yX1_wearCells cX1_wearCells 5 none, Cond.methodLink RX1 99 yX1_settle, Cond.instanceMethod yX1_settle, Cond.selects RX1 yX1_settle yX1_settle, Cond.code yX1_settle cX1_settle 4 none, Cond.fieldLink RX1 27 "InsideOutWords$State" "writesOf" "[I"]
def wsX3_placeParsed_r4 : List Cond := [Cond.fieldLink RX1 30 "InsideOutWords$State" "movesOf" "[I", Cond.fieldLink RX1 52 "InsideOutWords$State" "moves" "I"]
def wsX3_placeParsed : List Cond := .code yX3_placeParsed cX3_placeParsed 5 (some .int) :: ((wsX3_placeParsed_r1 ++ (wsX3_placeParsed_r2 ++ (wsX3_placeParsed_r3 ++ wsX3_placeParsed_r4))) ++ wsX30 ++ wsX20 ++ wsX10)
def wsX3_writeAll_r1 : List Cond := [Cond.classLink RX3 63 "java/lang/IllegalArgumentException", Cond.initialized "java/lang/IllegalArgumentException", Cond.fieldLink RX3 29 "InsideOutWords" "text" "LInsideOutWords$Text;", Cond.fieldLink RX3 22 "InsideOutWords" "history" "LInsideOutWords$History;", Cond.fieldLink RX3 10 "InsideOutWords" "now" "LInsideOutWords$State;", Cond.fieldLink RX3 106 "InsideOutWords$Text" "length" "I", Cond.methodLink RX3 119 yX2_isComplete, Cond.instanceMethod yX2_isComplete, Cond.selects RX2 yX2_isComplete yX2_isComplete, Cond.initialized RX2, Cond.code yX2_isComplete cX2_isComplete 1 (some .boolean), Cond.fieldLink RX2 21 "InsideOutWords$Text" "length" "I", Cond.fieldLink RX2 25 "InsideOutWords$Text" "stage" "I", Cond.methodLink RX2 35 yX2_parse, Cond.instanceMethod yX2_parse, Cond.selects RX2 yX2_parse yX2_parse, Cond.code yX2_parse cX2_parse 2 (some .int), Cond.fieldLink RX2 28 "InsideOutWords$Text" "parsed" "I", Cond.fieldLink RX2 9 "InsideOutWords$Text" "codes" "[I", Cond.methodLink RX2 31 yX2_takes, Cond.instanceMethod yX2_takes, Cond.selects RX2 yX2_takes yX2_takes, Cond.code yX2_takes cX2_takes 2 (some .boolean), Cond.fieldLink RX2 39 "InsideOutWords$Text" "word" "I"]
def wsX3_writeAll_r2 : List Cond := [Cond.static yX3_isOutside, Cond.initialized RX3, Cond.code yX3_isOutside cX3_isOutside 3 (some .boolean), Cond.methodLink RX2 46 yX2_takesFirstDigit, Cond.instanceMethod yX2_takesFirstDigit, Cond.selects RX2 yX2_takesFirstDigit yX2_takesFirstDigit, Cond.code yX2_takesFirstDigit cX2_takesFirstDigit 2 (some .boolean), Cond.fieldLink RX2 15 "InsideOutWords$Text" "parsedWord" "[I", Cond.fieldLink RX2 18 "InsideOutWords$Text" "parsedNumber" "[I", Cond.methodLink RX2 49 yX2_takesInNumber, Cond.instanceMethod yX2_takesInNumber, Cond.selects RX2 yX2_takesInNumber yX2_takesInNumber, Cond.code yX2_takesInNumber cX2_takesInNumber 6 (some .boolean), Cond.methodLink RX3 51 yX0_keep, Cond.instanceMethod yX0_keep, Cond.selects RX0 yX0_keep yX0_keep, Cond.initialized RX0, Cond.code yX0_keep cX0_keep 2 none, Cond.fieldLink RX0 18 "InsideOutWords$History" "size" "I", Cond.fieldLink RX0 22 "InsideOutWords$History" "oldest" "I", Cond.fieldLink RX0 11 "InsideOutWords$History" "rows" "[LInsideOutWords$State;", Cond.methodLink RX0 25 yX0_latest, Cond.instanceMethod yX0_latest, Cond.selects RX0 yX0_latest yX0_latest]
def wsX3_writeAll_r3 : List Cond := [Cond.code yX0_latest cX0_latest 1 (some .int), Cond.methodLink RX0 29 yX1_copyFrom, Cond.instanceMethod yX1_copyFrom, Cond.selects RX1 yX1_copyFrom yX1_copyFrom, Cond.initialized RX1, Cond.code yX1_copyFrom cX1_copyFrom 2 none, Cond.fieldLink RX1 9 "InsideOutWords$State" "held" "[I", Cond.methodLink RX1 36 arraycopyName, Cond.native arraycopyName, Cond.static arraycopyName, Cond.initialized "java/lang/System", Cond.fieldLink RX1 15 "InsideOutWords$State" "worn" "[I", Cond.fieldLink RX1 18 "InsideOutWords$State" "wordIn" "[I", Cond.fieldLink RX1 21 "InsideOutWords$State" "slotOf" "[I", Cond.fieldLink RX1 24 "InsideOutWords$State" "writesHere" "[I", Cond.fieldLink RX1 27 "InsideOutWords$State" "writesOf" "[I", Cond.fieldLink RX1 30 "InsideOutWords$State" "movesOf" "[I", Cond.fieldLink RX1 33 "InsideOutWords$State" "settings" "[I", Cond.fieldLink RX1 42 "InsideOutWords$State" "writes" "I", Cond.fieldLink RX1 46 "InsideOutWords$State" "changes" "I", Cond.fieldLink RX1 49 "InsideOutWords$State" "plainChanges" "I", Cond.fieldLink RX1 52 "InsideOutWords$State" "moves" "I", Cond.fieldLink RX1 55 "InsideOutWords$State" "turnedWrites" "I", Cond.methodLink RX3 125 yX3_placeParsed]
def wsX3_writeAll_r4 : List Cond := [Cond.instanceMethod yX3_placeParsed, Cond.selects RX3 yX3_placeParsed yX3_placeParsed, Cond.code yX3_placeParsed cX3_placeParsed 5 (some .int), Cond.fieldLink RX3 265 "InsideOutWords$Text" "parsed" "I", Cond.fieldLink RX3 268 "InsideOutWords$Text" "parsedWord" "[I", Cond.fieldLink RX3 271 "InsideOutWords$Text" "parsedNumber" "[I", Cond.methodLink RX3 40 yX1_targetOf, Cond.instanceMethod yX1_targetOf, Cond.selects RX1 yX1_targetOf yX1_targetOf, Cond.code yX1_targetOf cX1_targetOf 6 (some .int), Cond.methodLink RX1 89 yX1_wayIn, Cond.instanceMethod yX1_wayIn, Cond.selects RX1 yX1_wayIn yX1_wayIn, Cond.code yX1_wayIn cX1_wayIn 10 (some .int), Cond.methodLink RX1 64 yX1_stuckIn, Cond.instanceMethod yX1_stuckIn, Cond.selects RX1 yX1_stuckIn yX1_stuckIn, Cond.code yX1_stuckIn cX1_stuckIn 5 (some .int), Cond.methodLink RX1 68 yJ6_bitCount_0f7a4, Cond.static yJ6_bitCount_0f7a4, Cond.initialized RJ6, Cond.code yJ6_bitCount_0f7a4 cJ6_bitCount_0f7a4 1 (some .int), Cond.constant RJ6 265 (1431655765), Cond.constant RJ6 266 (858993459)]
def wsX3_writeAll_r5 : List Cond := [Cond.constant RJ6 267 (252645135), Cond.methodLink RX1 79 yX1_isHot, Cond.instanceMethod yX1_isHot, Cond.selects RX1 yX1_isHot yX1_isHot, Cond.code yX1_isHot cX1_isHot 2 (some .boolean), Cond.methodLink RX1 92 yX1_leastWornFreeFor, Cond.instanceMethod yX1_leastWornFreeFor, Cond.selects RX1 yX1_leastWornFreeFor yX1_leastWornFreeFor, Cond.code yX1_leastWornFreeFor cX1_leastWornFreeFor 4 (some .int), Cond.methodLink RX1 86 yX1_lessWorn, Cond.instanceMethod yX1_lessWorn, Cond.selects RX1 yX1_lessWorn yX1_lessWorn, Cond.code yX1_lessWorn cX1_lessWorn 3 (some .int), Cond.methodLink RX1 83 yX1_wornTogether, Cond.instanceMethod yX1_wornTogether, Cond.selects RX1 yX1_wornTogether yX1_wornTogether, Cond.code yX1_wornTogether cX1_wornTogether 5 (some .int), Cond.methodLink RX3 55 yX1_place, Cond.instanceMethod yX1_place, Cond.selects RX1 yX1_place yX1_place, Cond.code yX1_place cX1_place 7 (some .int), Cond.methodLink RX1 76 yX1_numberOf, Cond.instanceMethod yX1_numberOf, Cond.selects RX1 yX1_numberOf yX1_numberOf]
def wsX3_writeAll_r6 : List Cond := [Cond.code yX1_numberOf cX1_numberOf 2 (some .int), Cond.methodLink RX1 73 yX1_numberIn, Cond.instanceMethod yX1_numberIn, Cond.selects RX1 yX1_numberIn yX1_numberIn, Cond.code yX1_numberIn cX1_numberIn 3 (some .int), Cond.methodLink RX1 95 yX1_wearCells, Cond.instanceMethod yX1_wearCells, Cond.selects RX1 yX1_wearCells yX1_wearCells, Cond.code yX1_wearCells cX1_wearCells 5 none, Cond.methodLink RX1 99 yX1_settle, Cond.instanceMethod yX1_settle, Cond.selects RX1 yX1_settle yX1_settle, Cond.code yX1_settle cX1_settle 4 none]
def wsX3_writeAll : List Cond := .code yX3_writeAll cX3_writeAll 1 (some .int) :: ((wsX3_writeAll_r1 ++ (wsX3_writeAll_r2 ++ (wsX3_writeAll_r3 ++ (wsX3_writeAll_r4 ++ (wsX3_writeAll_r5 ++ wsX3_writeAll_r6))))) ++ wsX30 ++ wsX20 ++ wsX00 ++ wsX10 ++ (vx_atS RX3 67 "java/lang/IllegalArgumentException" ["java/lang/RuntimeException", "java/lang/Exception"]).filter goodWord)
def wsX3_undo_r1 : List Cond := [Cond.classLink RX3 44 "java/lang/IllegalStateException", Cond.initialized "java/lang/IllegalStateException", Cond.fieldLink RX3 22 "InsideOutWords" "history" "LInsideOutWords$History;", Cond.fieldLink RX3 128 "InsideOutWords$History" "size" "I", Cond.fieldLink RX3 10 "InsideOutWords" "now" "LInsideOutWords$State;", Cond.methodLink RX3 133 yX0_giveBack, Cond.instanceMethod yX0_giveBack, Cond.selects RX0 yX0_giveBack yX0_giveBack, Cond.initialized RX0, Cond.code yX0_giveBack cX0_giveBack 2 none, Cond.fieldLink RX0 11 "InsideOutWords$History" "rows" "[LInsideOutWords$State;", Cond.fieldLink RX0 18 "InsideOutWords$History" "size" "I", Cond.methodLink RX0 25 yX0_latest, Cond.instanceMethod yX0_latest, Cond.selects RX0 yX0_latest yX0_latest, Cond.code yX0_latest cX0_latest 1 (some .int), Cond.fieldLink RX0 22 "InsideOutWords$History" "oldest" "I", Cond.methodLink RX0 29 yX1_copyFrom, Cond.instanceMethod yX1_copyFrom, Cond.selects RX1 yX1_copyFrom yX1_copyFrom, Cond.initialized RX1, Cond.code yX1_copyFrom cX1_copyFrom 2 none, Cond.fieldLink RX1 9 "InsideOutWords$State" "held" "[I", Cond.methodLink RX1 36 arraycopyName]
def wsX3_undo_r2 : List Cond := [Cond.native arraycopyName, Cond.static arraycopyName, Cond.initialized "java/lang/System", Cond.fieldLink RX1 15 "InsideOutWords$State" "worn" "[I", Cond.fieldLink RX1 18 "InsideOutWords$State" "wordIn" "[I", Cond.fieldLink RX1 21 "InsideOutWords$State" "slotOf" "[I", Cond.fieldLink RX1 24 "InsideOutWords$State" "writesHere" "[I", Cond.fieldLink RX1 27 "InsideOutWords$State" "writesOf" "[I", Cond.fieldLink RX1 30 "InsideOutWords$State" "movesOf" "[I", Cond.fieldLink RX1 33 "InsideOutWords$State" "settings" "[I", Cond.fieldLink RX1 42 "InsideOutWords$State" "writes" "I", Cond.fieldLink RX1 46 "InsideOutWords$State" "changes" "I", Cond.fieldLink RX1 49 "InsideOutWords$State" "plainChanges" "I", Cond.fieldLink RX1 52 "InsideOutWords$State" "moves" "I", Cond.fieldLink RX1 55 "InsideOutWords$State" "turnedWrites" "I"]
def wsX3_undo : List Cond := .code yX3_undo cX3_undo 1 (some .int) :: ((wsX3_undo_r1 ++ wsX3_undo_r2) ++ wsX30 ++ wsX00 ++ wsX10 ++ (vx_atS RX3 48 "java/lang/IllegalStateException" ["java/lang/RuntimeException", "java/lang/Exception"]).filter goodWord)
def wsX3_read : List Cond := .code yX3_read cX3_read 2 (some .int) :: ([.fieldLink RX3 10 "InsideOutWords" "now" "LInsideOutWords$State;", .methodLink RX3 33 yX3_needWord, .static yX3_needWord, .initialized RX3, .code yX3_needWord cX3_needWord 1 none, .classLink RX3 274 "java/lang/IndexOutOfBoundsException", .initialized "java/lang/IndexOutOfBoundsException", .methodLink RX3 59 yX3_isOutside, .static yX3_isOutside, .code yX3_isOutside cX3_isOutside 3 (some .boolean), .methodLink RX3 136 yX1_numberOf, .instanceMethod yX1_numberOf, .selects RX1 yX1_numberOf yX1_numberOf, .initialized RX1, .code yX1_numberOf cX1_numberOf 2 (some .int), .fieldLink RX1 21 "InsideOutWords$State" "slotOf" "[I", .methodLink RX1 73 yX1_numberIn, .instanceMethod yX1_numberIn, .selects RX1 yX1_numberIn yX1_numberIn, .code yX1_numberIn cX1_numberIn 3 (some .int), .fieldLink RX1 9 "InsideOutWords$State" "held" "[I"] ++ wsX30 ++ wsX10 ++ (vx_atS RX3 278 "java/lang/IndexOutOfBoundsException" ["java/lang/RuntimeException", "java/lang/Exception"]).filter goodWord)
def wsX3_needWhat : List Cond := .code yX3_needWhat cX3_needWhat 2 none :: ([.classLink RX3 63 "java/lang/IllegalArgumentException", .initialized "java/lang/IllegalArgumentException", .methodLink RX3 59 yX3_isOutside, .static yX3_isOutside, .initialized RX3, .code yX3_isOutside cX3_isOutside 3 (some .boolean)] ++ (vx_atS RX3 67 "java/lang/IllegalArgumentException" ["java/lang/RuntimeException", "java/lang/Exception"]).filter goodWord)
def wsX3_word_r1 : List Cond := [Cond.fieldLink RX3 10 "InsideOutWords" "now" "LInsideOutWords$State;", Cond.fieldLink RX3 75 "InsideOutWords$State" "slotOf" "[I", Cond.fieldLink RX3 143 "InsideOutWords$State" "writesHere" "[I", Cond.fieldLink RX3 146 "InsideOutWords$State" "writesOf" "[I", Cond.fieldLink RX3 149 "InsideOutWords$State" "movesOf" "[I", Cond.methodLink RX3 33 yX3_needWord, Cond.static yX3_needWord, Cond.initialized RX3, Cond.code yX3_needWord cX3_needWord 1 none, Cond.classLink RX3 274 "java/lang/IndexOutOfBoundsException", Cond.initialized "java/lang/IndexOutOfBoundsException", Cond.methodLink RX3 59 yX3_isOutside, Cond.static yX3_isOutside, Cond.code yX3_isOutside cX3_isOutside 3 (some .boolean), Cond.methodLink RX3 140 yX3_needWhat, Cond.static yX3_needWhat, Cond.code yX3_needWhat cX3_needWhat 2 none, Cond.classLink RX3 63 "java/lang/IllegalArgumentException", Cond.initialized "java/lang/IllegalArgumentException", Cond.methodLink RX3 152 yX1_isHot, Cond.instanceMethod yX1_isHot, Cond.selects RX1 yX1_isHot yX1_isHot, Cond.initialized RX1, Cond.code yX1_isHot cX1_isHot 2 (some .boolean)]
def wsX3_word_r2 : List Cond := [Cond.fieldLink RX1 33 "InsideOutWords$State" "settings" "[I", Cond.fieldLink RX1 24 "InsideOutWords$State" "writesHere" "[I"]
def wsX3_word : List Cond := .code yX3_word cX3_word 3 (some .int) :: ((wsX3_word_r1 ++ wsX3_word_r2) ++ wsX30 ++ wsX10 ++ (vx_atS RX3 278 "java/lang/IndexOutOfBoundsException" ["java/lang/RuntimeException", "java/lang/Exception"]).filter goodWord ++ (vx_atS RX3 67 "java/lang/IllegalArgumentException" ["java/lang/RuntimeException", "java/lang/Exception"]).filter goodWord)
def wsX3_slot_r1 : List Cond := [Cond.fieldLink RX3 10 "InsideOutWords" "now" "LInsideOutWords$State;", Cond.fieldLink RX3 156 "InsideOutWords$State" "wordIn" "[I", Cond.fieldLink RX3 159 "InsideOutWords$State" "held" "[I", Cond.methodLink RX3 79 yX3_needSlot, Cond.static yX3_needSlot, Cond.initialized RX3, Cond.code yX3_needSlot cX3_needSlot 1 none, Cond.classLink RX3 274 "java/lang/IndexOutOfBoundsException", Cond.initialized "java/lang/IndexOutOfBoundsException", Cond.methodLink RX3 59 yX3_isOutside, Cond.static yX3_isOutside, Cond.code yX3_isOutside cX3_isOutside 3 (some .boolean), Cond.methodLink RX3 140 yX3_needWhat, Cond.static yX3_needWhat, Cond.code yX3_needWhat cX3_needWhat 2 none, Cond.classLink RX3 63 "java/lang/IllegalArgumentException", Cond.initialized "java/lang/IllegalArgumentException", Cond.methodLink RX3 162 yX1_wornTogether, Cond.instanceMethod yX1_wornTogether, Cond.selects RX1 yX1_wornTogether yX1_wornTogether, Cond.initialized RX1, Cond.code yX1_wornTogether cX1_wornTogether 5 (some .int), Cond.fieldLink RX1 15 "InsideOutWords$State" "worn" "[I", Cond.methodLink RX3 165 yX1_stuckIn]
def wsX3_slot_r2 : List Cond := [Cond.instanceMethod yX1_stuckIn, Cond.selects RX1 yX1_stuckIn yX1_stuckIn, Cond.code yX1_stuckIn cX1_stuckIn 5 (some .int), Cond.fieldLink RX1 33 "InsideOutWords$State" "settings" "[I", Cond.methodLink RX3 168 yX1_mostWorn, Cond.instanceMethod yX1_mostWorn, Cond.selects RX1 yX1_mostWorn yX1_mostWorn, Cond.code yX1_mostWorn cX1_mostWorn 5 (some .int), Cond.methodLink RX1 58 Lib.Math.max.name, Cond.static Lib.Math.max.name, Cond.initialized "java/lang/Math", Cond.code Lib.Math.max.name Lib.Math.max.code 2 (some .int)]
def wsX3_slot : List Cond := .code yX3_slot cX3_slot 3 (some .int) :: ((wsX3_slot_r1 ++ wsX3_slot_r2) ++ wsX30 ++ wsX10 ++ (vx_atS RX3 278 "java/lang/IndexOutOfBoundsException" ["java/lang/RuntimeException", "java/lang/Exception"]).filter goodWord ++ (vx_atS RX3 67 "java/lang/IllegalArgumentException" ["java/lang/RuntimeException", "java/lang/Exception"]).filter goodWord)
def wsX3_wearOf : List Cond := .code yX3_wearOf cX3_wearOf 3 (some .int) :: ([.fieldLink RX3 10 "InsideOutWords" "now" "LInsideOutWords$State;", .methodLink RX3 79 yX3_needSlot, .static yX3_needSlot, .initialized RX3, .code yX3_needSlot cX3_needSlot 1 none, .classLink RX3 274 "java/lang/IndexOutOfBoundsException", .initialized "java/lang/IndexOutOfBoundsException", .methodLink RX3 59 yX3_isOutside, .static yX3_isOutside, .code yX3_isOutside cX3_isOutside 3 (some .boolean), .methodLink RX3 82 yX3_needCell, .static yX3_needCell, .code yX3_needCell cX3_needCell 1 none, .methodLink RX3 87 yX1_wornAt, .instanceMethod yX1_wornAt, .selects RX1 yX1_wornAt yX1_wornAt, .initialized RX1, .code yX1_wornAt cX1_wornAt 3 (some .int), .fieldLink RX1 15 "InsideOutWords$State" "worn" "[I"] ++ wsX30 ++ wsX10 ++ (vx_atS RX3 278 "java/lang/IndexOutOfBoundsException" ["java/lang/RuntimeException", "java/lang/Exception"]).filter goodWord)
def wsX3_count_r1 : List Cond := [Cond.fieldLink RX3 10 "InsideOutWords" "now" "LInsideOutWords$State;", Cond.fieldLink RX3 171 "InsideOutWords$State" "writes" "I", Cond.fieldLink RX3 174 "InsideOutWords$State" "changes" "I", Cond.fieldLink RX3 177 "InsideOutWords$State" "plainChanges" "I", Cond.fieldLink RX3 180 "InsideOutWords$State" "moves" "I", Cond.fieldLink RX3 183 "InsideOutWords$State" "turnedWrites" "I", Cond.fieldLink RX3 22 "InsideOutWords" "history" "LInsideOutWords$History;", Cond.fieldLink RX3 128 "InsideOutWords$History" "size" "I", Cond.methodLink RX3 140 yX3_needWhat, Cond.static yX3_needWhat, Cond.initialized RX3, Cond.code yX3_needWhat cX3_needWhat 2 none, Cond.classLink RX3 63 "java/lang/IllegalArgumentException", Cond.initialized "java/lang/IllegalArgumentException", Cond.methodLink RX3 59 yX3_isOutside, Cond.static yX3_isOutside, Cond.code yX3_isOutside cX3_isOutside 3 (some .boolean), Cond.methodLink RX3 186 yX1_stuckCells, Cond.instanceMethod yX1_stuckCells, Cond.selects RX1 yX1_stuckCells yX1_stuckCells, Cond.initialized RX1, Cond.code yX1_stuckCells cX1_stuckCells 3 (some .int), Cond.methodLink RX1 64 yX1_stuckIn, Cond.instanceMethod yX1_stuckIn]
def wsX3_count_r2 : List Cond := [Cond.selects RX1 yX1_stuckIn yX1_stuckIn, Cond.code yX1_stuckIn cX1_stuckIn 5 (some .int), Cond.fieldLink RX1 15 "InsideOutWords$State" "worn" "[I", Cond.fieldLink RX1 33 "InsideOutWords$State" "settings" "[I", Cond.methodLink RX1 68 yJ6_bitCount_0f7a4, Cond.static yJ6_bitCount_0f7a4, Cond.initialized RJ6, Cond.code yJ6_bitCount_0f7a4 cJ6_bitCount_0f7a4 1 (some .int), Cond.constant RJ6 265 (1431655765), Cond.constant RJ6 266 (858993459), Cond.constant RJ6 267 (252645135), Cond.methodLink RX3 189 yX1_leastWornFree, Cond.instanceMethod yX1_leastWornFree, Cond.selects RX1 yX1_leastWornFree yX1_leastWornFree, Cond.code yX1_leastWornFree cX1_leastWornFree 3 (some .int), Cond.fieldLink RX1 18 "InsideOutWords$State" "wordIn" "[I", Cond.methodLink RX1 86 yX1_lessWorn, Cond.instanceMethod yX1_lessWorn, Cond.selects RX1 yX1_lessWorn yX1_lessWorn, Cond.code yX1_lessWorn cX1_lessWorn 3 (some .int), Cond.methodLink RX1 83 yX1_wornTogether, Cond.instanceMethod yX1_wornTogether, Cond.selects RX1 yX1_wornTogether yX1_wornTogether, Cond.code yX1_wornTogether cX1_wornTogether 5 (some .int)]
def wsX3_count_r3 : List Cond := [Cond.methodLink RX3 192 yX1_hotWords, Cond.instanceMethod yX1_hotWords, Cond.selects RX1 yX1_hotWords yX1_hotWords, Cond.code yX1_hotWords cX1_hotWords 3 (some .int), Cond.methodLink RX1 79 yX1_isHot, Cond.instanceMethod yX1_isHot, Cond.selects RX1 yX1_isHot yX1_isHot, Cond.code yX1_isHot cX1_isHot 2 (some .boolean), Cond.fieldLink RX1 24 "InsideOutWords$State" "writesHere" "[I", Cond.methodLink RX3 195 yX1_sumOfWords, Cond.instanceMethod yX1_sumOfWords, Cond.selects RX1 yX1_sumOfWords yX1_sumOfWords, Cond.code yX1_sumOfWords cX1_sumOfWords 3 (some .int), Cond.methodLink RX1 76 yX1_numberOf, Cond.instanceMethod yX1_numberOf, Cond.selects RX1 yX1_numberOf yX1_numberOf, Cond.code yX1_numberOf cX1_numberOf 2 (some .int), Cond.fieldLink RX1 21 "InsideOutWords$State" "slotOf" "[I", Cond.methodLink RX1 73 yX1_numberIn, Cond.instanceMethod yX1_numberIn, Cond.selects RX1 yX1_numberIn yX1_numberIn, Cond.code yX1_numberIn cX1_numberIn 3 (some .int), Cond.fieldLink RX1 9 "InsideOutWords$State" "held" "[I"]
def wsX3_count : List Cond := .code yX3_count cX3_count 2 (some .int) :: ((wsX3_count_r1 ++ (wsX3_count_r2 ++ wsX3_count_r3)) ++ wsX30 ++ wsX10 ++ wsX00 ++ (vx_atS RX3 67 "java/lang/IllegalArgumentException" ["java/lang/RuntimeException", "java/lang/Exception"]).filter goodWord)
def wsX3_setting : List Cond := .code yX3_setting cX3_setting 2 (some .int) :: ([.fieldLink RX3 10 "InsideOutWords" "now" "LInsideOutWords$State;", .fieldLink RX3 101 "InsideOutWords$State" "settings" "[I", .methodLink RX3 96 yX3_needSetting, .static yX3_needSetting, .initialized RX3, .code yX3_needSetting cX3_needSetting 1 none, .classLink RX3 274 "java/lang/IndexOutOfBoundsException", .initialized "java/lang/IndexOutOfBoundsException", .methodLink RX3 59 yX3_isOutside, .static yX3_isOutside, .code yX3_isOutside cX3_isOutside 3 (some .boolean)] ++ wsX30 ++ wsX10 ++ (vx_atS RX3 278 "java/lang/IndexOutOfBoundsException" ["java/lang/RuntimeException", "java/lang/Exception"]).filter goodWord)
def wsX3_cost_r1 : List Cond := [Cond.fieldLink RX3 10 "InsideOutWords" "now" "LInsideOutWords$State;", Cond.fieldLink RX3 159 "InsideOutWords$State" "held" "[I", Cond.methodLink RX3 79 yX3_needSlot, Cond.static yX3_needSlot, Cond.initialized RX3, Cond.code yX3_needSlot cX3_needSlot 1 none, Cond.classLink RX3 274 "java/lang/IndexOutOfBoundsException", Cond.initialized "java/lang/IndexOutOfBoundsException", Cond.methodLink RX3 59 yX3_isOutside, Cond.static yX3_isOutside, Cond.code yX3_isOutside cX3_isOutside 3 (some .boolean), Cond.methodLink RX3 37 yX3_needNumber, Cond.static yX3_needNumber, Cond.code yX3_needNumber cX3_needNumber 1 none, Cond.classLink RX3 63 "java/lang/IllegalArgumentException", Cond.initialized "java/lang/IllegalArgumentException", Cond.methodLink RX3 198 yX1_wayIn, Cond.instanceMethod yX1_wayIn, Cond.selects RX1 yX1_wayIn yX1_wayIn, Cond.initialized RX1, Cond.code yX1_wayIn cX1_wayIn 10 (some .int), Cond.fieldLink RX1 9 "InsideOutWords$State" "held" "[I", Cond.methodLink RX1 64 yX1_stuckIn, Cond.instanceMethod yX1_stuckIn]
def wsX3_cost_r2 : List Cond := [Cond.selects RX1 yX1_stuckIn yX1_stuckIn, Cond.code yX1_stuckIn cX1_stuckIn 5 (some .int), Cond.fieldLink RX1 15 "InsideOutWords$State" "worn" "[I", Cond.fieldLink RX1 33 "InsideOutWords$State" "settings" "[I", Cond.methodLink RX1 68 yJ6_bitCount_0f7a4, Cond.static yJ6_bitCount_0f7a4, Cond.initialized RJ6, Cond.code yJ6_bitCount_0f7a4 cJ6_bitCount_0f7a4 1 (some .int), Cond.constant RJ6 265 (1431655765), Cond.constant RJ6 266 (858993459), Cond.constant RJ6 267 (252645135), Cond.methodLink RX3 201 yJ6_bitCount_0f7a4]
def wsX3_cost : List Cond := .code yX3_cost cX3_cost 4 (some .int) :: ((wsX3_cost_r1 ++ wsX3_cost_r2) ++ wsX30 ++ wsX10 ++ (vx_atS RX3 278 "java/lang/IndexOutOfBoundsException" ["java/lang/RuntimeException", "java/lang/Exception"]).filter goodWord ++ (vx_atS RX3 67 "java/lang/IllegalArgumentException" ["java/lang/RuntimeException", "java/lang/Exception"]).filter goodWord)
def wsX3_ifWritten_r1 : List Cond := [Cond.fieldLink RX3 10 "InsideOutWords" "now" "LInsideOutWords$State;", Cond.methodLink RX3 33 yX3_needWord, Cond.static yX3_needWord, Cond.initialized RX3, Cond.code yX3_needWord cX3_needWord 1 none, Cond.classLink RX3 274 "java/lang/IndexOutOfBoundsException", Cond.initialized "java/lang/IndexOutOfBoundsException", Cond.methodLink RX3 59 yX3_isOutside, Cond.static yX3_isOutside, Cond.code yX3_isOutside cX3_isOutside 3 (some .boolean), Cond.methodLink RX3 37 yX3_needNumber, Cond.static yX3_needNumber, Cond.code yX3_needNumber cX3_needNumber 1 none, Cond.classLink RX3 63 "java/lang/IllegalArgumentException", Cond.initialized "java/lang/IllegalArgumentException", Cond.methodLink RX3 40 yX1_targetOf, Cond.instanceMethod yX1_targetOf, Cond.selects RX1 yX1_targetOf yX1_targetOf, Cond.initialized RX1, Cond.code yX1_targetOf cX1_targetOf 6 (some .int), Cond.fieldLink RX1 21 "InsideOutWords$State" "slotOf" "[I", Cond.methodLink RX1 89 yX1_wayIn, Cond.instanceMethod yX1_wayIn, Cond.selects RX1 yX1_wayIn yX1_wayIn]
def wsX3_ifWritten_r2 : List Cond := [Cond.code yX1_wayIn cX1_wayIn 10 (some .int), Cond.fieldLink RX1 9 "InsideOutWords$State" "held" "[I", Cond.methodLink RX1 64 yX1_stuckIn, Cond.instanceMethod yX1_stuckIn, Cond.selects RX1 yX1_stuckIn yX1_stuckIn, Cond.code yX1_stuckIn cX1_stuckIn 5 (some .int), Cond.fieldLink RX1 15 "InsideOutWords$State" "worn" "[I", Cond.fieldLink RX1 33 "InsideOutWords$State" "settings" "[I", Cond.methodLink RX1 68 yJ6_bitCount_0f7a4, Cond.static yJ6_bitCount_0f7a4, Cond.initialized RJ6, Cond.code yJ6_bitCount_0f7a4 cJ6_bitCount_0f7a4 1 (some .int), Cond.constant RJ6 265 (1431655765), Cond.constant RJ6 266 (858993459), Cond.constant RJ6 267 (252645135), Cond.methodLink RX1 79 yX1_isHot, Cond.instanceMethod yX1_isHot, Cond.selects RX1 yX1_isHot yX1_isHot, Cond.code yX1_isHot cX1_isHot 2 (some .boolean), Cond.fieldLink RX1 24 "InsideOutWords$State" "writesHere" "[I", Cond.methodLink RX1 92 yX1_leastWornFreeFor, Cond.instanceMethod yX1_leastWornFreeFor, Cond.selects RX1 yX1_leastWornFreeFor yX1_leastWornFreeFor, Cond.code yX1_leastWornFreeFor cX1_leastWornFreeFor 4 (some .int)]
def wsX3_ifWritten_r3 : List Cond := [Cond.fieldLink RX1 18 "InsideOutWords$State" "wordIn" "[I", Cond.methodLink RX1 86 yX1_lessWorn, Cond.instanceMethod yX1_lessWorn, Cond.selects RX1 yX1_lessWorn yX1_lessWorn, Cond.code yX1_lessWorn cX1_lessWorn 3 (some .int), Cond.methodLink RX1 83 yX1_wornTogether, Cond.instanceMethod yX1_wornTogether, Cond.selects RX1 yX1_wornTogether yX1_wornTogether, Cond.code yX1_wornTogether cX1_wornTogether 5 (some .int)]
def wsX3_ifWritten : List Cond := .code yX3_ifWritten cX3_ifWritten 3 (some .int) :: ((wsX3_ifWritten_r1 ++ (wsX3_ifWritten_r2 ++ wsX3_ifWritten_r3)) ++ wsX30 ++ wsX10 ++ (vx_atS RX3 278 "java/lang/IndexOutOfBoundsException" ["java/lang/RuntimeException", "java/lang/Exception"]).filter goodWord ++ (vx_atS RX3 67 "java/lang/IllegalArgumentException" ["java/lang/RuntimeException", "java/lang/Exception"]).filter goodWord)
def wsX3_costliest_r1 : List Cond := [Cond.fieldLink RX3 10 "InsideOutWords" "now" "LInsideOutWords$State;", Cond.fieldLink RX3 75 "InsideOutWords$State" "slotOf" "[I", Cond.methodLink RX3 33 yX3_needWord, Cond.static yX3_needWord, Cond.initialized RX3, Cond.code yX3_needWord cX3_needWord 1 none, Cond.classLink RX3 274 "java/lang/IndexOutOfBoundsException", Cond.initialized "java/lang/IndexOutOfBoundsException", Cond.methodLink RX3 59 yX3_isOutside, Cond.static yX3_isOutside, Cond.code yX3_isOutside cX3_isOutside 3 (some .boolean), Cond.methodLink RX3 206 yX1_dearestIn, Cond.instanceMethod yX1_dearestIn, Cond.selects RX1 yX1_dearestIn yX1_dearestIn, Cond.initialized RX1, Cond.code yX1_dearestIn cX1_dearestIn 4 (some .int), Cond.methodLink RX1 73 yX1_numberIn, Cond.instanceMethod yX1_numberIn, Cond.selects RX1 yX1_numberIn yX1_numberIn, Cond.code yX1_numberIn cX1_numberIn 3 (some .int), Cond.fieldLink RX1 9 "InsideOutWords$State" "held" "[I", Cond.methodLink RX1 64 yX1_stuckIn, Cond.instanceMethod yX1_stuckIn, Cond.selects RX1 yX1_stuckIn yX1_stuckIn]
def wsX3_costliest_r2 : List Cond := [Cond.code yX1_stuckIn cX1_stuckIn 5 (some .int), Cond.fieldLink RX1 15 "InsideOutWords$State" "worn" "[I", Cond.fieldLink RX1 33 "InsideOutWords$State" "settings" "[I", Cond.methodLink RX1 109 yX1_lowestHalfwayFrom, Cond.static yX1_lowestHalfwayFrom, Cond.code yX1_lowestHalfwayFrom cX1_lowestHalfwayFrom 2 (some .int), Cond.methodLink RX1 68 yJ6_bitCount_0f7a4, Cond.static yJ6_bitCount_0f7a4, Cond.initialized RJ6, Cond.code yJ6_bitCount_0f7a4 cJ6_bitCount_0f7a4 1 (some .int), Cond.constant RJ6 265 (1431655765), Cond.constant RJ6 266 (858993459), Cond.constant RJ6 267 (252645135), Cond.methodLink RX1 112 yX1_lowestOnes, Cond.static yX1_lowestOnes, Cond.code yX1_lowestOnes cX1_lowestOnes 4 (some .int)]
def wsX3_costliest : List Cond := .code yX3_costliest cX3_costliest 2 (some .int) :: ((wsX3_costliest_r1 ++ wsX3_costliest_r2) ++ wsX30 ++ wsX10 ++ (vx_atS RX3 278 "java/lang/IndexOutOfBoundsException" ["java/lang/RuntimeException", "java/lang/Exception"]).filter goodWord)
def wsX3_life_r1 : List Cond := [Cond.fieldLink RX3 16 "InsideOutWords" "trial" "LInsideOutWords$State;", Cond.fieldLink RX3 10 "InsideOutWords" "now" "LInsideOutWords$State;", Cond.methodLink RX3 33 yX3_needWord, Cond.static yX3_needWord, Cond.initialized RX3, Cond.code yX3_needWord cX3_needWord 1 none, Cond.classLink RX3 274 "java/lang/IndexOutOfBoundsException", Cond.initialized "java/lang/IndexOutOfBoundsException", Cond.methodLink RX3 59 yX3_isOutside, Cond.static yX3_isOutside, Cond.code yX3_isOutside cX3_isOutside 3 (some .boolean), Cond.methodLink RX3 37 yX3_needNumber, Cond.static yX3_needNumber, Cond.code yX3_needNumber cX3_needNumber 1 none, Cond.classLink RX3 63 "java/lang/IllegalArgumentException", Cond.initialized "java/lang/IllegalArgumentException", Cond.methodLink RX3 209 yX1_copyFrom, Cond.instanceMethod yX1_copyFrom, Cond.selects RX1 yX1_copyFrom yX1_copyFrom, Cond.initialized RX1, Cond.code yX1_copyFrom cX1_copyFrom 2 none, Cond.fieldLink RX1 9 "InsideOutWords$State" "held" "[I", Cond.methodLink RX1 36 arraycopyName, Cond.native arraycopyName]
def wsX3_life_r2 : List Cond := [Cond.static arraycopyName, Cond.initialized "java/lang/System", Cond.fieldLink RX1 15 "InsideOutWords$State" "worn" "[I", Cond.fieldLink RX1 18 "InsideOutWords$State" "wordIn" "[I", Cond.fieldLink RX1 21 "InsideOutWords$State" "slotOf" "[I", Cond.fieldLink RX1 24 "InsideOutWords$State" "writesHere" "[I", Cond.fieldLink RX1 27 "InsideOutWords$State" "writesOf" "[I", Cond.fieldLink RX1 30 "InsideOutWords$State" "movesOf" "[I", Cond.fieldLink RX1 33 "InsideOutWords$State" "settings" "[I", Cond.fieldLink RX1 42 "InsideOutWords$State" "writes" "I", Cond.fieldLink RX1 46 "InsideOutWords$State" "changes" "I", Cond.fieldLink RX1 49 "InsideOutWords$State" "plainChanges" "I", Cond.fieldLink RX1 52 "InsideOutWords$State" "moves" "I", Cond.fieldLink RX1 55 "InsideOutWords$State" "turnedWrites" "I", Cond.methodLink RX3 68 yX1_placeInTurns, Cond.instanceMethod yX1_placeInTurns, Cond.selects RX1 yX1_placeInTurns yX1_placeInTurns, Cond.code yX1_placeInTurns cX1_placeInTurns 7 (some .int), Cond.methodLink RX1 102 yX1_targetOf, Cond.instanceMethod yX1_targetOf, Cond.selects RX1 yX1_targetOf yX1_targetOf, Cond.code yX1_targetOf cX1_targetOf 6 (some .int), Cond.methodLink RX1 89 yX1_wayIn, Cond.instanceMethod yX1_wayIn]
def wsX3_life_r3 : List Cond := [Cond.selects RX1 yX1_wayIn yX1_wayIn, Cond.code yX1_wayIn cX1_wayIn 10 (some .int), Cond.methodLink RX1 64 yX1_stuckIn, Cond.instanceMethod yX1_stuckIn, Cond.selects RX1 yX1_stuckIn yX1_stuckIn, Cond.code yX1_stuckIn cX1_stuckIn 5 (some .int), Cond.methodLink RX1 68 yJ6_bitCount_0f7a4, Cond.static yJ6_bitCount_0f7a4, Cond.initialized RJ6, Cond.code yJ6_bitCount_0f7a4 cJ6_bitCount_0f7a4 1 (some .int), Cond.constant RJ6 265 (1431655765), Cond.constant RJ6 266 (858993459), Cond.constant RJ6 267 (252645135), Cond.methodLink RX1 79 yX1_isHot, Cond.instanceMethod yX1_isHot, Cond.selects RX1 yX1_isHot yX1_isHot, Cond.code yX1_isHot cX1_isHot 2 (some .boolean), Cond.methodLink RX1 92 yX1_leastWornFreeFor, Cond.instanceMethod yX1_leastWornFreeFor, Cond.selects RX1 yX1_leastWornFreeFor yX1_leastWornFreeFor, Cond.code yX1_leastWornFreeFor cX1_leastWornFreeFor 4 (some .int), Cond.methodLink RX1 86 yX1_lessWorn, Cond.instanceMethod yX1_lessWorn, Cond.selects RX1 yX1_lessWorn yX1_lessWorn]
def wsX3_life_r4 : List Cond := [Cond.code yX1_lessWorn cX1_lessWorn 3 (some .int), Cond.methodLink RX1 83 yX1_wornTogether, Cond.instanceMethod yX1_wornTogether, Cond.selects RX1 yX1_wornTogether yX1_wornTogether, Cond.code yX1_wornTogether cX1_wornTogether 5 (some .int), Cond.methodLink RX1 105 yX1_place, Cond.instanceMethod yX1_place, Cond.selects RX1 yX1_place yX1_place, Cond.code yX1_place cX1_place 7 (some .int), Cond.methodLink RX1 76 yX1_numberOf, Cond.instanceMethod yX1_numberOf, Cond.selects RX1 yX1_numberOf yX1_numberOf, Cond.code yX1_numberOf cX1_numberOf 2 (some .int), Cond.methodLink RX1 73 yX1_numberIn, Cond.instanceMethod yX1_numberIn, Cond.selects RX1 yX1_numberIn yX1_numberIn, Cond.code yX1_numberIn cX1_numberIn 3 (some .int), Cond.methodLink RX1 95 yX1_wearCells, Cond.instanceMethod yX1_wearCells, Cond.selects RX1 yX1_wearCells yX1_wearCells, Cond.code yX1_wearCells cX1_wearCells 5 none, Cond.methodLink RX1 99 yX1_settle, Cond.instanceMethod yX1_settle, Cond.selects RX1 yX1_settle yX1_settle]
def wsX3_life_r5 : List Cond := [Cond.code yX1_settle cX1_settle 4 none]
def wsX3_life : List Cond := .code yX3_life cX3_life 3 (some .int) :: ((wsX3_life_r1 ++ (wsX3_life_r2 ++ (wsX3_life_r3 ++ (wsX3_life_r4 ++ wsX3_life_r5)))) ++ wsX30 ++ wsX10 ++ (vx_atS RX3 278 "java/lang/IndexOutOfBoundsException" ["java/lang/RuntimeException", "java/lang/Exception"]).filter goodWord ++ (vx_atS RX3 67 "java/lang/IllegalArgumentException" ["java/lang/RuntimeException", "java/lang/Exception"]).filter goodWord)
def wsX3_share : List Cond := .code yX3_share cX3_share 2 (some .double) :: ([.fieldLink RX3 10 "InsideOutWords" "now" "LInsideOutWords$State;", .fieldLink RX3 177 "InsideOutWords$State" "plainChanges" "I", .fieldLink RX3 174 "InsideOutWords$State" "changes" "I"] ++ wsX30 ++ wsX10)
def wsX3_hashOfWord_r1 : List Cond := [Cond.constantLong RX3 214 (31), Cond.methodLink RX3 241 yX3_read, Cond.instanceMethod yX3_read, Cond.selects RX3 yX3_read yX3_read, Cond.initialized RX3, Cond.code yX3_read cX3_read 2 (some .int), Cond.fieldLink RX3 10 "InsideOutWords" "now" "LInsideOutWords$State;", Cond.methodLink RX3 33 yX3_needWord, Cond.static yX3_needWord, Cond.code yX3_needWord cX3_needWord 1 none, Cond.classLink RX3 274 "java/lang/IndexOutOfBoundsException", Cond.initialized "java/lang/IndexOutOfBoundsException", Cond.methodLink RX3 59 yX3_isOutside, Cond.static yX3_isOutside, Cond.code yX3_isOutside cX3_isOutside 3 (some .boolean), Cond.methodLink RX3 136 yX1_numberOf, Cond.instanceMethod yX1_numberOf, Cond.selects RX1 yX1_numberOf yX1_numberOf, Cond.initialized RX1, Cond.code yX1_numberOf cX1_numberOf 2 (some .int), Cond.fieldLink RX1 21 "InsideOutWords$State" "slotOf" "[I", Cond.methodLink RX1 73 yX1_numberIn, Cond.instanceMethod yX1_numberIn, Cond.selects RX1 yX1_numberIn yX1_numberIn]
def wsX3_hashOfWord_r2 : List Cond := [Cond.code yX1_numberIn cX1_numberIn 3 (some .int), Cond.fieldLink RX1 9 "InsideOutWords$State" "held" "[I", Cond.methodLink RX3 244 yX3_word, Cond.instanceMethod yX3_word, Cond.selects RX3 yX3_word yX3_word, Cond.code yX3_word cX3_word 3 (some .int), Cond.fieldLink RX3 75 "InsideOutWords$State" "slotOf" "[I", Cond.fieldLink RX3 143 "InsideOutWords$State" "writesHere" "[I", Cond.fieldLink RX3 146 "InsideOutWords$State" "writesOf" "[I", Cond.fieldLink RX3 149 "InsideOutWords$State" "movesOf" "[I", Cond.methodLink RX3 140 yX3_needWhat, Cond.static yX3_needWhat, Cond.code yX3_needWhat cX3_needWhat 2 none, Cond.classLink RX3 63 "java/lang/IllegalArgumentException", Cond.initialized "java/lang/IllegalArgumentException", Cond.methodLink RX3 152 yX1_isHot, Cond.instanceMethod yX1_isHot, Cond.selects RX1 yX1_isHot yX1_isHot, Cond.code yX1_isHot cX1_isHot 2 (some .boolean), Cond.fieldLink RX1 33 "InsideOutWords$State" "settings" "[I", Cond.fieldLink RX1 24 "InsideOutWords$State" "writesHere" "[I", Cond.methodLink RX3 247 yX3_ifWritten, Cond.instanceMethod yX3_ifWritten, Cond.selects RX3 yX3_ifWritten yX3_ifWritten]
def wsX3_hashOfWord_r3 : List Cond := [Cond.code yX3_ifWritten cX3_ifWritten 3 (some .int), Cond.methodLink RX3 37 yX3_needNumber, Cond.static yX3_needNumber, Cond.code yX3_needNumber cX3_needNumber 1 none, Cond.methodLink RX3 40 yX1_targetOf, Cond.instanceMethod yX1_targetOf, Cond.selects RX1 yX1_targetOf yX1_targetOf, Cond.code yX1_targetOf cX1_targetOf 6 (some .int), Cond.methodLink RX1 89 yX1_wayIn, Cond.instanceMethod yX1_wayIn, Cond.selects RX1 yX1_wayIn yX1_wayIn, Cond.code yX1_wayIn cX1_wayIn 10 (some .int), Cond.methodLink RX1 64 yX1_stuckIn, Cond.instanceMethod yX1_stuckIn, Cond.selects RX1 yX1_stuckIn yX1_stuckIn, Cond.code yX1_stuckIn cX1_stuckIn 5 (some .int), Cond.fieldLink RX1 15 "InsideOutWords$State" "worn" "[I", Cond.methodLink RX1 68 yJ6_bitCount_0f7a4, Cond.static yJ6_bitCount_0f7a4, Cond.initialized RJ6, Cond.code yJ6_bitCount_0f7a4 cJ6_bitCount_0f7a4 1 (some .int), Cond.constant RJ6 265 (1431655765), Cond.constant RJ6 266 (858993459), Cond.constant RJ6 267 (252645135)]
def wsX3_hashOfWord_r4 : List Cond := [Cond.methodLink RX1 79 yX1_isHot, Cond.methodLink RX1 92 yX1_leastWornFreeFor, Cond.instanceMethod yX1_leastWornFreeFor, Cond.selects RX1 yX1_leastWornFreeFor yX1_leastWornFreeFor, Cond.code yX1_leastWornFreeFor cX1_leastWornFreeFor 4 (some .int), Cond.fieldLink RX1 18 "InsideOutWords$State" "wordIn" "[I", Cond.methodLink RX1 86 yX1_lessWorn, Cond.instanceMethod yX1_lessWorn, Cond.selects RX1 yX1_lessWorn yX1_lessWorn, Cond.code yX1_lessWorn cX1_lessWorn 3 (some .int), Cond.methodLink RX1 83 yX1_wornTogether, Cond.instanceMethod yX1_wornTogether, Cond.selects RX1 yX1_wornTogether yX1_wornTogether, Cond.code yX1_wornTogether cX1_wornTogether 5 (some .int), Cond.methodLink RX3 250 yX3_costliest, Cond.instanceMethod yX3_costliest, Cond.selects RX3 yX3_costliest yX3_costliest, Cond.code yX3_costliest cX3_costliest 2 (some .int), Cond.methodLink RX3 206 yX1_dearestIn, Cond.instanceMethod yX1_dearestIn, Cond.selects RX1 yX1_dearestIn yX1_dearestIn, Cond.code yX1_dearestIn cX1_dearestIn 4 (some .int), Cond.methodLink RX1 109 yX1_lowestHalfwayFrom, Cond.static yX1_lowestHalfwayFrom]
def wsX3_hashOfWord_r5 : List Cond := [Cond.code yX1_lowestHalfwayFrom cX1_lowestHalfwayFrom 2 (some .int), Cond.methodLink RX1 112 yX1_lowestOnes, Cond.static yX1_lowestOnes, Cond.code yX1_lowestOnes cX1_lowestOnes 4 (some .int)]
def wsX3_hashOfWord : List Cond := .code yX3_hashOfWord cX3_hashOfWord 7 (some .long) :: ((wsX3_hashOfWord_r1 ++ (wsX3_hashOfWord_r2 ++ (wsX3_hashOfWord_r3 ++ (wsX3_hashOfWord_r4 ++ wsX3_hashOfWord_r5)))) ++ wsX30 ++ wsX10 ++ (vx_atS RX3 278 "java/lang/IndexOutOfBoundsException" ["java/lang/RuntimeException", "java/lang/Exception"]).filter goodWord ++ (vx_atS RX3 67 "java/lang/IllegalArgumentException" ["java/lang/RuntimeException", "java/lang/Exception"]).filter goodWord)
def wsX3_hashOfSlot_r1 : List Cond := [Cond.constantLong RX3 214 (31), Cond.methodLink RX3 253 yX3_slot, Cond.instanceMethod yX3_slot, Cond.selects RX3 yX3_slot yX3_slot, Cond.initialized RX3, Cond.code yX3_slot cX3_slot 3 (some .int), Cond.fieldLink RX3 10 "InsideOutWords" "now" "LInsideOutWords$State;", Cond.fieldLink RX3 156 "InsideOutWords$State" "wordIn" "[I", Cond.fieldLink RX3 159 "InsideOutWords$State" "held" "[I", Cond.methodLink RX3 79 yX3_needSlot, Cond.static yX3_needSlot, Cond.code yX3_needSlot cX3_needSlot 1 none, Cond.classLink RX3 274 "java/lang/IndexOutOfBoundsException", Cond.initialized "java/lang/IndexOutOfBoundsException", Cond.methodLink RX3 59 yX3_isOutside, Cond.static yX3_isOutside, Cond.code yX3_isOutside cX3_isOutside 3 (some .boolean), Cond.methodLink RX3 140 yX3_needWhat, Cond.static yX3_needWhat, Cond.code yX3_needWhat cX3_needWhat 2 none, Cond.classLink RX3 63 "java/lang/IllegalArgumentException", Cond.initialized "java/lang/IllegalArgumentException", Cond.methodLink RX3 162 yX1_wornTogether, Cond.instanceMethod yX1_wornTogether]
def wsX3_hashOfSlot_r2 : List Cond := [Cond.selects RX1 yX1_wornTogether yX1_wornTogether, Cond.initialized RX1, Cond.code yX1_wornTogether cX1_wornTogether 5 (some .int), Cond.fieldLink RX1 15 "InsideOutWords$State" "worn" "[I", Cond.methodLink RX3 165 yX1_stuckIn, Cond.instanceMethod yX1_stuckIn, Cond.selects RX1 yX1_stuckIn yX1_stuckIn, Cond.code yX1_stuckIn cX1_stuckIn 5 (some .int), Cond.fieldLink RX1 33 "InsideOutWords$State" "settings" "[I", Cond.methodLink RX3 168 yX1_mostWorn, Cond.instanceMethod yX1_mostWorn, Cond.selects RX1 yX1_mostWorn yX1_mostWorn, Cond.code yX1_mostWorn cX1_mostWorn 5 (some .int), Cond.methodLink RX1 58 Lib.Math.max.name, Cond.static Lib.Math.max.name, Cond.initialized "java/lang/Math", Cond.code Lib.Math.max.name Lib.Math.max.code 2 (some .int), Cond.methodLink RX3 256 yX3_cost, Cond.instanceMethod yX3_cost, Cond.selects RX3 yX3_cost yX3_cost, Cond.code yX3_cost cX3_cost 4 (some .int), Cond.methodLink RX3 37 yX3_needNumber, Cond.static yX3_needNumber, Cond.code yX3_needNumber cX3_needNumber 1 none]
def wsX3_hashOfSlot_r3 : List Cond := [Cond.methodLink RX3 198 yX1_wayIn, Cond.instanceMethod yX1_wayIn, Cond.selects RX1 yX1_wayIn yX1_wayIn, Cond.code yX1_wayIn cX1_wayIn 10 (some .int), Cond.fieldLink RX1 9 "InsideOutWords$State" "held" "[I", Cond.methodLink RX1 64 yX1_stuckIn, Cond.methodLink RX1 68 yJ6_bitCount_0f7a4, Cond.static yJ6_bitCount_0f7a4, Cond.initialized RJ6, Cond.code yJ6_bitCount_0f7a4 cJ6_bitCount_0f7a4 1 (some .int), Cond.constant RJ6 265 (1431655765), Cond.constant RJ6 266 (858993459), Cond.constant RJ6 267 (252645135), Cond.methodLink RX3 201 yJ6_bitCount_0f7a4]
def wsX3_hashOfSlot : List Cond := .code yX3_hashOfSlot cX3_hashOfSlot 7 (some .long) :: ((wsX3_hashOfSlot_r1 ++ (wsX3_hashOfSlot_r2 ++ wsX3_hashOfSlot_r3)) ++ wsX30 ++ wsX10 ++ (vx_atS RX3 278 "java/lang/IndexOutOfBoundsException" ["java/lang/RuntimeException", "java/lang/Exception"]).filter goodWord ++ (vx_atS RX3 67 "java/lang/IllegalArgumentException" ["java/lang/RuntimeException", "java/lang/Exception"]).filter goodWord)
def wsX3_bitsOf : List Cond := .code yX3_bitsOf cX3_bitsOf 8 (some .long) :: ([.constantLong RX3 259 (1023), .constantDouble RX3 261 (4611686018427387904), .constantDouble RX3 263 (4841369599423283200)])
def wsX3_digest_r1 : List Cond := [Cond.constantLong RX3 212 (2969), Cond.constantLong RX3 214 (31), Cond.fieldLink RX3 10 "InsideOutWords" "now" "LInsideOutWords$State;", Cond.fieldLink RX3 101 "InsideOutWords$State" "settings" "[I", Cond.fieldLink RX3 29 "InsideOutWords" "text" "LInsideOutWords$Text;", Cond.methodLink RX3 216 yX3_count, Cond.instanceMethod yX3_count, Cond.selects RX3 yX3_count yX3_count, Cond.initialized RX3, Cond.code yX3_count cX3_count 2 (some .int), Cond.fieldLink RX3 171 "InsideOutWords$State" "writes" "I", Cond.fieldLink RX3 174 "InsideOutWords$State" "changes" "I", Cond.fieldLink RX3 177 "InsideOutWords$State" "plainChanges" "I", Cond.fieldLink RX3 180 "InsideOutWords$State" "moves" "I", Cond.fieldLink RX3 183 "InsideOutWords$State" "turnedWrites" "I", Cond.fieldLink RX3 22 "InsideOutWords" "history" "LInsideOutWords$History;", Cond.fieldLink RX3 128 "InsideOutWords$History" "size" "I", Cond.methodLink RX3 140 yX3_needWhat, Cond.static yX3_needWhat, Cond.code yX3_needWhat cX3_needWhat 2 none, Cond.classLink RX3 63 "java/lang/IllegalArgumentException", Cond.initialized "java/lang/IllegalArgumentException", Cond.methodLink RX3 59 yX3_isOutside, Cond.static yX3_isOutside]
def wsX3_digest_r2 : List Cond := [Cond.code yX3_isOutside cX3_isOutside 3 (some .boolean), Cond.methodLink RX3 186 yX1_stuckCells, Cond.instanceMethod yX1_stuckCells, Cond.selects RX1 yX1_stuckCells yX1_stuckCells, Cond.initialized RX1, Cond.code yX1_stuckCells cX1_stuckCells 3 (some .int), Cond.methodLink RX1 64 yX1_stuckIn, Cond.instanceMethod yX1_stuckIn, Cond.selects RX1 yX1_stuckIn yX1_stuckIn, Cond.code yX1_stuckIn cX1_stuckIn 5 (some .int), Cond.fieldLink RX1 15 "InsideOutWords$State" "worn" "[I", Cond.fieldLink RX1 33 "InsideOutWords$State" "settings" "[I", Cond.methodLink RX1 68 yJ6_bitCount_0f7a4, Cond.static yJ6_bitCount_0f7a4, Cond.initialized RJ6, Cond.code yJ6_bitCount_0f7a4 cJ6_bitCount_0f7a4 1 (some .int), Cond.constant RJ6 265 (1431655765), Cond.constant RJ6 266 (858993459), Cond.constant RJ6 267 (252645135), Cond.methodLink RX3 189 yX1_leastWornFree, Cond.instanceMethod yX1_leastWornFree, Cond.selects RX1 yX1_leastWornFree yX1_leastWornFree, Cond.code yX1_leastWornFree cX1_leastWornFree 3 (some .int), Cond.fieldLink RX1 18 "InsideOutWords$State" "wordIn" "[I"]
def wsX3_digest_r3 : List Cond := [Cond.methodLink RX1 86 yX1_lessWorn, Cond.instanceMethod yX1_lessWorn, Cond.selects RX1 yX1_lessWorn yX1_lessWorn, Cond.code yX1_lessWorn cX1_lessWorn 3 (some .int), Cond.methodLink RX1 83 yX1_wornTogether, Cond.instanceMethod yX1_wornTogether, Cond.selects RX1 yX1_wornTogether yX1_wornTogether, Cond.code yX1_wornTogether cX1_wornTogether 5 (some .int), Cond.methodLink RX3 192 yX1_hotWords, Cond.instanceMethod yX1_hotWords, Cond.selects RX1 yX1_hotWords yX1_hotWords, Cond.code yX1_hotWords cX1_hotWords 3 (some .int), Cond.methodLink RX1 79 yX1_isHot, Cond.instanceMethod yX1_isHot, Cond.selects RX1 yX1_isHot yX1_isHot, Cond.code yX1_isHot cX1_isHot 2 (some .boolean), Cond.fieldLink RX1 24 "InsideOutWords$State" "writesHere" "[I", Cond.methodLink RX3 195 yX1_sumOfWords, Cond.instanceMethod yX1_sumOfWords, Cond.selects RX1 yX1_sumOfWords yX1_sumOfWords, Cond.code yX1_sumOfWords cX1_sumOfWords 3 (some .int), Cond.methodLink RX1 76 yX1_numberOf, Cond.instanceMethod yX1_numberOf, Cond.selects RX1 yX1_numberOf yX1_numberOf]
def wsX3_digest_r4 : List Cond := [Cond.code yX1_numberOf cX1_numberOf 2 (some .int), Cond.fieldLink RX1 21 "InsideOutWords$State" "slotOf" "[I", Cond.methodLink RX1 73 yX1_numberIn, Cond.instanceMethod yX1_numberIn, Cond.selects RX1 yX1_numberIn yX1_numberIn, Cond.code yX1_numberIn cX1_numberIn 3 (some .int), Cond.fieldLink RX1 9 "InsideOutWords$State" "held" "[I", Cond.methodLink RX3 219 yX3_hashOfWord, Cond.instanceMethod yX3_hashOfWord, Cond.selects RX3 yX3_hashOfWord yX3_hashOfWord, Cond.code yX3_hashOfWord cX3_hashOfWord 7 (some .long), Cond.methodLink RX3 241 yX3_read, Cond.instanceMethod yX3_read, Cond.selects RX3 yX3_read yX3_read, Cond.code yX3_read cX3_read 2 (some .int), Cond.methodLink RX3 33 yX3_needWord, Cond.static yX3_needWord, Cond.code yX3_needWord cX3_needWord 1 none, Cond.classLink RX3 274 "java/lang/IndexOutOfBoundsException", Cond.initialized "java/lang/IndexOutOfBoundsException", Cond.methodLink RX3 136 yX1_numberOf, Cond.methodLink RX3 244 yX3_word, Cond.instanceMethod yX3_word, Cond.selects RX3 yX3_word yX3_word]
def wsX3_digest_r5 : List Cond := [Cond.code yX3_word cX3_word 3 (some .int), Cond.fieldLink RX3 75 "InsideOutWords$State" "slotOf" "[I", Cond.fieldLink RX3 143 "InsideOutWords$State" "writesHere" "[I", Cond.fieldLink RX3 146 "InsideOutWords$State" "writesOf" "[I", Cond.fieldLink RX3 149 "InsideOutWords$State" "movesOf" "[I", Cond.methodLink RX3 152 yX1_isHot, Cond.methodLink RX3 247 yX3_ifWritten, Cond.instanceMethod yX3_ifWritten, Cond.selects RX3 yX3_ifWritten yX3_ifWritten, Cond.code yX3_ifWritten cX3_ifWritten 3 (some .int), Cond.methodLink RX3 37 yX3_needNumber, Cond.static yX3_needNumber, Cond.code yX3_needNumber cX3_needNumber 1 none, Cond.methodLink RX3 40 yX1_targetOf, Cond.instanceMethod yX1_targetOf, Cond.selects RX1 yX1_targetOf yX1_targetOf, Cond.code yX1_targetOf cX1_targetOf 6 (some .int), Cond.methodLink RX1 89 yX1_wayIn, Cond.instanceMethod yX1_wayIn, Cond.selects RX1 yX1_wayIn yX1_wayIn, Cond.code yX1_wayIn cX1_wayIn 10 (some .int), Cond.methodLink RX1 92 yX1_leastWornFreeFor, Cond.instanceMethod yX1_leastWornFreeFor, Cond.selects RX1 yX1_leastWornFreeFor yX1_leastWornFreeFor]
def wsX3_digest_r6 : List Cond := [Cond.code yX1_leastWornFreeFor cX1_leastWornFreeFor 4 (some .int), Cond.methodLink RX3 250 yX3_costliest, Cond.instanceMethod yX3_costliest, Cond.selects RX3 yX3_costliest yX3_costliest, Cond.code yX3_costliest cX3_costliest 2 (some .int), Cond.methodLink RX3 206 yX1_dearestIn, Cond.instanceMethod yX1_dearestIn, Cond.selects RX1 yX1_dearestIn yX1_dearestIn, Cond.code yX1_dearestIn cX1_dearestIn 4 (some .int), Cond.methodLink RX1 109 yX1_lowestHalfwayFrom, Cond.static yX1_lowestHalfwayFrom, Cond.code yX1_lowestHalfwayFrom cX1_lowestHalfwayFrom 2 (some .int), Cond.methodLink RX1 112 yX1_lowestOnes, Cond.static yX1_lowestOnes, Cond.code yX1_lowestOnes cX1_lowestOnes 4 (some .int), Cond.methodLink RX3 223 yX3_hashOfSlot, Cond.instanceMethod yX3_hashOfSlot, Cond.selects RX3 yX3_hashOfSlot yX3_hashOfSlot, Cond.code yX3_hashOfSlot cX3_hashOfSlot 7 (some .long), Cond.methodLink RX3 253 yX3_slot, Cond.instanceMethod yX3_slot, Cond.selects RX3 yX3_slot yX3_slot, Cond.code yX3_slot cX3_slot 3 (some .int), Cond.fieldLink RX3 156 "InsideOutWords$State" "wordIn" "[I"]
def wsX3_digest_r7 : List Cond := [Cond.fieldLink RX3 159 "InsideOutWords$State" "held" "[I", Cond.methodLink RX3 79 yX3_needSlot, Cond.static yX3_needSlot, Cond.code yX3_needSlot cX3_needSlot 1 none, Cond.methodLink RX3 162 yX1_wornTogether, Cond.methodLink RX3 165 yX1_stuckIn, Cond.methodLink RX3 168 yX1_mostWorn, Cond.instanceMethod yX1_mostWorn, Cond.selects RX1 yX1_mostWorn yX1_mostWorn, Cond.code yX1_mostWorn cX1_mostWorn 5 (some .int), Cond.methodLink RX1 58 Lib.Math.max.name, Cond.static Lib.Math.max.name, Cond.initialized "java/lang/Math", Cond.code Lib.Math.max.name Lib.Math.max.code 2 (some .int), Cond.methodLink RX3 256 yX3_cost, Cond.instanceMethod yX3_cost, Cond.selects RX3 yX3_cost yX3_cost, Cond.code yX3_cost cX3_cost 4 (some .int), Cond.methodLink RX3 198 yX1_wayIn, Cond.methodLink RX3 201 yJ6_bitCount_0f7a4, Cond.methodLink RX3 87 yX1_wornAt, Cond.instanceMethod yX1_wornAt, Cond.selects RX1 yX1_wornAt yX1_wornAt, Cond.code yX1_wornAt cX1_wornAt 3 (some .int)]
def wsX3_digest_r8 : List Cond := [Cond.methodLink RX3 226 yX3_life, Cond.instanceMethod yX3_life, Cond.selects RX3 yX3_life yX3_life, Cond.code yX3_life cX3_life 3 (some .int), Cond.fieldLink RX3 16 "InsideOutWords" "trial" "LInsideOutWords$State;", Cond.methodLink RX3 209 yX1_copyFrom, Cond.instanceMethod yX1_copyFrom, Cond.selects RX1 yX1_copyFrom yX1_copyFrom, Cond.code yX1_copyFrom cX1_copyFrom 2 none, Cond.methodLink RX1 36 arraycopyName, Cond.native arraycopyName, Cond.static arraycopyName, Cond.initialized "java/lang/System", Cond.fieldLink RX1 27 "InsideOutWords$State" "writesOf" "[I", Cond.fieldLink RX1 30 "InsideOutWords$State" "movesOf" "[I", Cond.fieldLink RX1 42 "InsideOutWords$State" "writes" "I", Cond.fieldLink RX1 46 "InsideOutWords$State" "changes" "I", Cond.fieldLink RX1 49 "InsideOutWords$State" "plainChanges" "I", Cond.fieldLink RX1 52 "InsideOutWords$State" "moves" "I", Cond.fieldLink RX1 55 "InsideOutWords$State" "turnedWrites" "I", Cond.methodLink RX3 68 yX1_placeInTurns, Cond.instanceMethod yX1_placeInTurns, Cond.selects RX1 yX1_placeInTurns yX1_placeInTurns, Cond.code yX1_placeInTurns cX1_placeInTurns 7 (some .int)]
def wsX3_digest_r9 : List Cond := [Cond.methodLink RX1 102 yX1_targetOf, Cond.methodLink RX1 105 yX1_place, Cond.instanceMethod yX1_place, Cond.selects RX1 yX1_place yX1_place, Cond.code yX1_place cX1_place 7 (some .int), Cond.methodLink RX1 95 yX1_wearCells, Cond.instanceMethod yX1_wearCells, Cond.selects RX1 yX1_wearCells yX1_wearCells, Cond.code yX1_wearCells cX1_wearCells 5 none, Cond.methodLink RX1 99 yX1_settle, Cond.instanceMethod yX1_settle, Cond.selects RX1 yX1_settle yX1_settle, Cond.code yX1_settle cX1_settle 4 none, Cond.methodLink RX3 229 yX3_share, Cond.instanceMethod yX3_share, Cond.selects RX3 yX3_share yX3_share, Cond.code yX3_share cX3_share 2 (some .double), Cond.methodLink RX3 233 yX3_bitsOf, Cond.static yX3_bitsOf, Cond.code yX3_bitsOf cX3_bitsOf 8 (some .long), Cond.constantLong RX3 259 (1023), Cond.constantDouble RX3 261 (4611686018427387904), Cond.constantDouble RX3 263 (4841369599423283200), Cond.methodLink RX3 237 yX2_hashAfter]
def wsX3_digest_r10 : List Cond := [Cond.instanceMethod yX2_hashAfter, Cond.selects RX2 yX2_hashAfter yX2_hashAfter, Cond.initialized RX2, Cond.code yX2_hashAfter cX2_hashAfter 6 (some .long), Cond.constantLong RX2 52 (31), Cond.fieldLink RX2 21 "InsideOutWords$Text" "length" "I", Cond.fieldLink RX2 9 "InsideOutWords$Text" "codes" "[I"]
def wsX3_digest : List Cond := .code yX3_digest cX3_digest 4 (some .long) :: ((wsX3_digest_r1 ++ (wsX3_digest_r2 ++ (wsX3_digest_r3 ++ (wsX3_digest_r4 ++ (wsX3_digest_r5 ++ (wsX3_digest_r6 ++ (wsX3_digest_r7 ++ (wsX3_digest_r8 ++ (wsX3_digest_r9 ++ wsX3_digest_r10))))))))) ++ wsX30 ++ wsX10 ++ wsX00 ++ wsX20 ++ (vx_atS RX3 67 "java/lang/IllegalArgumentException" ["java/lang/RuntimeException", "java/lang/Exception"]).filter goodWord ++ (vx_atS RX3 278 "java/lang/IndexOutOfBoundsException" ["java/lang/RuntimeException", "java/lang/Exception"]).filter goodWord)
def wsX4_init : List Cond := .code yX4_init cX4_init 2 none :: ([.methodLink RX4 1 objectInit, .instanceMethod objectInit, .code objectInit ⟨#[0xb1]⟩ 1 none, .arrayClass .int, .fieldLink RX4 7 "InsideOutWordsModel" "now" "[I", .fieldLink RX4 13 "InsideOutWordsModel" "then" "[I", .fieldLink RX4 16 "InsideOutWordsModel" "past" "[I", .fieldLink RX4 19 "InsideOutWordsModel" "text" "[I", .fieldLink RX4 22 "InsideOutWordsModel" "told" "[I"] ++ wsX40)
def wsX4_thrown : List Cond := .code yX4_thrown cX4_thrown 1 (some .int) :: ([.fieldLink RX4 25 "InsideOutWordsModel" "thrown" "I"] ++ wsX40)
def wsX4_fails : List Cond := .code yX4_fails cX4_fails 2 (some .int) :: ([.fieldLink RX4 25 "InsideOutWordsModel" "thrown" "I"] ++ wsX40)
def wsX4_in : List Cond := .code yX4_in cX4_in 3 (some .boolean) :: ([])
def wsX4_isWord : List Cond := .code yX4_isWord cX4_isWord 1 (some .boolean) :: ([.methodLink RX4 29 yX4_in, .static yX4_in, .initialized RX4, .code yX4_in cX4_in 3 (some .boolean)])
def wsX4_isSlot : List Cond := .code yX4_isSlot cX4_isSlot 1 (some .boolean) :: ([.methodLink RX4 29 yX4_in, .static yX4_in, .initialized RX4, .code yX4_in cX4_in 3 (some .boolean)])
def wsX4_isNumber : List Cond := .code yX4_isNumber cX4_isNumber 1 (some .boolean) :: ([.methodLink RX4 29 yX4_in, .static yX4_in, .initialized RX4, .code yX4_in cX4_in 3 (some .boolean)])
def wsX4_copies : List Cond := .code yX4_copies cX4_copies 5 none :: ([])
def wsX4_saves : List Cond := .code yX4_saves cX4_saves 2 none :: ([.fieldLink RX4 33 "InsideOutWordsModel" "kept" "I", .fieldLink RX4 16 "InsideOutWordsModel" "past" "[I", .fieldLink RX4 7 "InsideOutWordsModel" "now" "[I", .methodLink RX4 36 yX4_copies, .static yX4_copies, .initialized RX4, .code yX4_copies cX4_copies 5 none] ++ wsX40)
def wsX4_undo : List Cond := .code yX4_undo cX4_undo 1 (some .int) :: ([.fieldLink RX4 25 "InsideOutWordsModel" "thrown" "I", .fieldLink RX4 33 "InsideOutWordsModel" "kept" "I", .fieldLink RX4 16 "InsideOutWordsModel" "past" "[I", .fieldLink RX4 7 "InsideOutWordsModel" "now" "[I", .methodLink RX4 40 yX4_fails, .instanceMethod yX4_fails, .selects RX4 yX4_fails yX4_fails, .initialized RX4, .code yX4_fails cX4_fails 2 (some .int), .methodLink RX4 36 yX4_copies, .static yX4_copies, .code yX4_copies cX4_copies 5 none] ++ wsX40)
def wsX4_ones : List Cond := .code yX4_ones cX4_ones 3 (some .int) :: ([])
def wsX4_worn : List Cond := .code yX4_worn cX4_worn 3 (some .int) :: ([])
def wsX4_stuck : List Cond := .code yX4_stuck cX4_stuck 4 (some .int) :: ([.methodLink RX4 44 yX4_worn, .static yX4_worn, .initialized RX4, .code yX4_worn cX4_worn 3 (some .int)])
def wsX4_allWear : List Cond := .code yX4_allWear cX4_allWear 4 (some .int) :: ([.methodLink RX4 44 yX4_worn, .static yX4_worn, .initialized RX4, .code yX4_worn cX4_worn 3 (some .int)])
def wsX4_wordOf : List Cond := .code yX4_wordOf cX4_wordOf 4 (some .int) :: ([])
def wsX4_reads : List Cond := .code yX4_reads cX4_reads 3 (some .int) :: ([])
def wsX4_taken : List Cond := .code yX4_taken cX4_taken 10 (some .int) :: ([.methodLink RX4 48 yX4_ones, .static yX4_ones, .initialized RX4, .code yX4_ones cX4_ones 3 (some .int)])
def wsX4_costs : List Cond := .code yX4_costs cX4_costs 5 (some .int) :: ([.methodLink RX4 51 yX4_taken, .static yX4_taken, .initialized RX4, .code yX4_taken cX4_taken 10 (some .int), .methodLink RX4 48 yX4_ones, .static yX4_ones, .code yX4_ones cX4_ones 3 (some .int)])
def wsX4_bars : List Cond := .code yX4_bars cX4_bars 3 (some .boolean) :: ([.methodLink RX4 55 yX4_stuck, .static yX4_stuck, .initialized RX4, .code yX4_stuck cX4_stuck 4 (some .int), .methodLink RX4 44 yX4_worn, .static yX4_worn, .code yX4_worn cX4_worn 3 (some .int), .methodLink RX4 51 yX4_taken, .static yX4_taken, .code yX4_taken cX4_taken 10 (some .int), .methodLink RX4 48 yX4_ones, .static yX4_ones, .code yX4_ones cX4_ones 3 (some .int)])
def wsX4_free : List Cond := .code yX4_free cX4_free 5 (some .int) :: ([.methodLink RX4 59 yX4_wordOf, .static yX4_wordOf, .initialized RX4, .code yX4_wordOf cX4_wordOf 4 (some .int), .methodLink RX4 62 yX4_bars, .static yX4_bars, .code yX4_bars cX4_bars 3 (some .boolean), .methodLink RX4 55 yX4_stuck, .static yX4_stuck, .code yX4_stuck cX4_stuck 4 (some .int), .methodLink RX4 44 yX4_worn, .static yX4_worn, .code yX4_worn cX4_worn 3 (some .int), .methodLink RX4 51 yX4_taken, .static yX4_taken, .code yX4_taken cX4_taken 10 (some .int), .methodLink RX4 48 yX4_ones, .static yX4_ones, .code yX4_ones cX4_ones 3 (some .int), .methodLink RX4 66 yX4_allWear, .static yX4_allWear, .code yX4_allWear cX4_allWear 4 (some .int)])
def wsX4_isHot : List Cond := .code yX4_isHot cX4_isHot 2 (some .boolean) :: ([])
def wsX4_goesTo_r1 : List Cond := [Cond.methodLink RX4 69 yX4_isHot, Cond.static yX4_isHot, Cond.initialized RX4, Cond.code yX4_isHot cX4_isHot 2 (some .boolean), Cond.methodLink RX4 73 yX4_free, Cond.static yX4_free, Cond.code yX4_free cX4_free 5 (some .int), Cond.methodLink RX4 59 yX4_wordOf, Cond.static yX4_wordOf, Cond.code yX4_wordOf cX4_wordOf 4 (some .int), Cond.methodLink RX4 62 yX4_bars, Cond.static yX4_bars, Cond.code yX4_bars cX4_bars 3 (some .boolean), Cond.methodLink RX4 55 yX4_stuck, Cond.static yX4_stuck, Cond.code yX4_stuck cX4_stuck 4 (some .int), Cond.methodLink RX4 44 yX4_worn, Cond.static yX4_worn, Cond.code yX4_worn cX4_worn 3 (some .int), Cond.methodLink RX4 51 yX4_taken, Cond.static yX4_taken, Cond.code yX4_taken cX4_taken 10 (some .int), Cond.methodLink RX4 48 yX4_ones, Cond.static yX4_ones]
def wsX4_goesTo_r2 : List Cond := [Cond.code yX4_ones cX4_ones 3 (some .int), Cond.methodLink RX4 66 yX4_allWear, Cond.static yX4_allWear, Cond.code yX4_allWear cX4_allWear 4 (some .int)]
def wsX4_goesTo : List Cond := .code yX4_goesTo cX4_goesTo 5 (some .int) :: ((wsX4_goesTo_r1 ++ wsX4_goesTo_r2))
def wsX4_writes_r1 : List Cond := [Cond.methodLink RX4 76 yX4_goesTo, Cond.static yX4_goesTo, Cond.initialized RX4, Cond.code yX4_goesTo cX4_goesTo 5 (some .int), Cond.methodLink RX4 69 yX4_isHot, Cond.static yX4_isHot, Cond.code yX4_isHot cX4_isHot 2 (some .boolean), Cond.methodLink RX4 73 yX4_free, Cond.static yX4_free, Cond.code yX4_free cX4_free 5 (some .int), Cond.methodLink RX4 59 yX4_wordOf, Cond.static yX4_wordOf, Cond.code yX4_wordOf cX4_wordOf 4 (some .int), Cond.methodLink RX4 62 yX4_bars, Cond.static yX4_bars, Cond.code yX4_bars cX4_bars 3 (some .boolean), Cond.methodLink RX4 55 yX4_stuck, Cond.static yX4_stuck, Cond.code yX4_stuck cX4_stuck 4 (some .int), Cond.methodLink RX4 44 yX4_worn, Cond.static yX4_worn, Cond.code yX4_worn cX4_worn 3 (some .int), Cond.methodLink RX4 51 yX4_taken, Cond.static yX4_taken]
def wsX4_writes_r2 : List Cond := [Cond.code yX4_taken cX4_taken 10 (some .int), Cond.methodLink RX4 48 yX4_ones, Cond.static yX4_ones, Cond.code yX4_ones cX4_ones 3 (some .int), Cond.methodLink RX4 66 yX4_allWear, Cond.static yX4_allWear, Cond.code yX4_allWear cX4_allWear 4 (some .int), Cond.methodLink RX4 79 yX4_reads, Cond.static yX4_reads, Cond.code yX4_reads cX4_reads 3 (some .int)]
def wsX4_writes : List Cond := .code yX4_writes cX4_writes 8 (some .int) :: ((wsX4_writes_r1 ++ wsX4_writes_r2))
def wsX4_hammers_r1 : List Cond := [Cond.methodLink RX4 82 yX4_writes, Cond.static yX4_writes, Cond.initialized RX4, Cond.code yX4_writes cX4_writes 8 (some .int), Cond.methodLink RX4 76 yX4_goesTo, Cond.static yX4_goesTo, Cond.code yX4_goesTo cX4_goesTo 5 (some .int), Cond.methodLink RX4 69 yX4_isHot, Cond.static yX4_isHot, Cond.code yX4_isHot cX4_isHot 2 (some .boolean), Cond.methodLink RX4 73 yX4_free, Cond.static yX4_free, Cond.code yX4_free cX4_free 5 (some .int), Cond.methodLink RX4 59 yX4_wordOf, Cond.static yX4_wordOf, Cond.code yX4_wordOf cX4_wordOf 4 (some .int), Cond.methodLink RX4 62 yX4_bars, Cond.static yX4_bars, Cond.code yX4_bars cX4_bars 3 (some .boolean), Cond.methodLink RX4 55 yX4_stuck, Cond.static yX4_stuck, Cond.code yX4_stuck cX4_stuck 4 (some .int), Cond.methodLink RX4 44 yX4_worn, Cond.static yX4_worn]
def wsX4_hammers_r2 : List Cond := [Cond.code yX4_worn cX4_worn 3 (some .int), Cond.methodLink RX4 51 yX4_taken, Cond.static yX4_taken, Cond.code yX4_taken cX4_taken 10 (some .int), Cond.methodLink RX4 48 yX4_ones, Cond.static yX4_ones, Cond.code yX4_ones cX4_ones 3 (some .int), Cond.methodLink RX4 66 yX4_allWear, Cond.static yX4_allWear, Cond.code yX4_allWear cX4_allWear 4 (some .int), Cond.methodLink RX4 79 yX4_reads, Cond.static yX4_reads, Cond.code yX4_reads cX4_reads 3 (some .int)]
def wsX4_hammers : List Cond := .code yX4_hammers cX4_hammers 5 (some .int) :: ((wsX4_hammers_r1 ++ wsX4_hammers_r2))
def wsX4_write_r1 : List Cond := [Cond.fieldLink RX4 7 "InsideOutWordsModel" "now" "[I", Cond.fieldLink RX4 25 "InsideOutWordsModel" "thrown" "I", Cond.methodLink RX4 85 yX4_isWord, Cond.static yX4_isWord, Cond.initialized RX4, Cond.code yX4_isWord cX4_isWord 1 (some .boolean), Cond.methodLink RX4 29 yX4_in, Cond.static yX4_in, Cond.code yX4_in cX4_in 3 (some .boolean), Cond.methodLink RX4 89 yX4_isNumber, Cond.static yX4_isNumber, Cond.code yX4_isNumber cX4_isNumber 1 (some .boolean), Cond.methodLink RX4 76 yX4_goesTo, Cond.static yX4_goesTo, Cond.code yX4_goesTo cX4_goesTo 5 (some .int), Cond.methodLink RX4 69 yX4_isHot, Cond.static yX4_isHot, Cond.code yX4_isHot cX4_isHot 2 (some .boolean), Cond.methodLink RX4 73 yX4_free, Cond.static yX4_free, Cond.code yX4_free cX4_free 5 (some .int), Cond.methodLink RX4 59 yX4_wordOf, Cond.static yX4_wordOf, Cond.code yX4_wordOf cX4_wordOf 4 (some .int)]
def wsX4_write_r2 : List Cond := [Cond.methodLink RX4 62 yX4_bars, Cond.static yX4_bars, Cond.code yX4_bars cX4_bars 3 (some .boolean), Cond.methodLink RX4 55 yX4_stuck, Cond.static yX4_stuck, Cond.code yX4_stuck cX4_stuck 4 (some .int), Cond.methodLink RX4 44 yX4_worn, Cond.static yX4_worn, Cond.code yX4_worn cX4_worn 3 (some .int), Cond.methodLink RX4 51 yX4_taken, Cond.static yX4_taken, Cond.code yX4_taken cX4_taken 10 (some .int), Cond.methodLink RX4 48 yX4_ones, Cond.static yX4_ones, Cond.code yX4_ones cX4_ones 3 (some .int), Cond.methodLink RX4 66 yX4_allWear, Cond.static yX4_allWear, Cond.code yX4_allWear cX4_allWear 4 (some .int), Cond.methodLink RX4 92 yX4_saves, Cond.instanceMethod yX4_saves, Cond.selects RX4 yX4_saves yX4_saves, Cond.code yX4_saves cX4_saves 2 none, Cond.fieldLink RX4 33 "InsideOutWordsModel" "kept" "I", Cond.fieldLink RX4 16 "InsideOutWordsModel" "past" "[I"]
def wsX4_write_r3 : List Cond := [Cond.methodLink RX4 36 yX4_copies, Cond.static yX4_copies, Cond.code yX4_copies cX4_copies 5 none, Cond.methodLink RX4 82 yX4_writes, Cond.static yX4_writes, Cond.code yX4_writes cX4_writes 8 (some .int), Cond.methodLink RX4 79 yX4_reads, Cond.static yX4_reads, Cond.code yX4_reads cX4_reads 3 (some .int)]
def wsX4_write : List Cond := .code yX4_write cX4_write 3 (some .int) :: ((wsX4_write_r1 ++ (wsX4_write_r2 ++ wsX4_write_r3)) ++ wsX40)
def wsX4_hammer_r1 : List Cond := [Cond.fieldLink RX4 25 "InsideOutWordsModel" "thrown" "I", Cond.fieldLink RX4 7 "InsideOutWordsModel" "now" "[I", Cond.methodLink RX4 85 yX4_isWord, Cond.static yX4_isWord, Cond.initialized RX4, Cond.code yX4_isWord cX4_isWord 1 (some .boolean), Cond.methodLink RX4 29 yX4_in, Cond.static yX4_in, Cond.code yX4_in cX4_in 3 (some .boolean), Cond.methodLink RX4 89 yX4_isNumber, Cond.static yX4_isNumber, Cond.code yX4_isNumber cX4_isNumber 1 (some .boolean), Cond.methodLink RX4 92 yX4_saves, Cond.instanceMethod yX4_saves, Cond.selects RX4 yX4_saves yX4_saves, Cond.code yX4_saves cX4_saves 2 none, Cond.fieldLink RX4 33 "InsideOutWordsModel" "kept" "I", Cond.fieldLink RX4 16 "InsideOutWordsModel" "past" "[I", Cond.methodLink RX4 36 yX4_copies, Cond.static yX4_copies, Cond.code yX4_copies cX4_copies 5 none, Cond.methodLink RX4 95 yX4_hammers, Cond.static yX4_hammers, Cond.code yX4_hammers cX4_hammers 5 (some .int)]
def wsX4_hammer_r2 : List Cond := [Cond.methodLink RX4 82 yX4_writes, Cond.static yX4_writes, Cond.code yX4_writes cX4_writes 8 (some .int), Cond.methodLink RX4 76 yX4_goesTo, Cond.static yX4_goesTo, Cond.code yX4_goesTo cX4_goesTo 5 (some .int), Cond.methodLink RX4 69 yX4_isHot, Cond.static yX4_isHot, Cond.code yX4_isHot cX4_isHot 2 (some .boolean), Cond.methodLink RX4 73 yX4_free, Cond.static yX4_free, Cond.code yX4_free cX4_free 5 (some .int), Cond.methodLink RX4 59 yX4_wordOf, Cond.static yX4_wordOf, Cond.code yX4_wordOf cX4_wordOf 4 (some .int), Cond.methodLink RX4 62 yX4_bars, Cond.static yX4_bars, Cond.code yX4_bars cX4_bars 3 (some .boolean), Cond.methodLink RX4 55 yX4_stuck, Cond.static yX4_stuck, Cond.code yX4_stuck cX4_stuck 4 (some .int), Cond.methodLink RX4 44 yX4_worn, Cond.static yX4_worn, Cond.code yX4_worn cX4_worn 3 (some .int)]
def wsX4_hammer_r3 : List Cond := [Cond.methodLink RX4 51 yX4_taken, Cond.static yX4_taken, Cond.code yX4_taken cX4_taken 10 (some .int), Cond.methodLink RX4 48 yX4_ones, Cond.static yX4_ones, Cond.code yX4_ones cX4_ones 3 (some .int), Cond.methodLink RX4 66 yX4_allWear, Cond.static yX4_allWear, Cond.code yX4_allWear cX4_allWear 4 (some .int), Cond.methodLink RX4 79 yX4_reads, Cond.static yX4_reads, Cond.code yX4_reads cX4_reads 3 (some .int)]
def wsX4_hammer : List Cond := .code yX4_hammer cX4_hammer 4 (some .int) :: ((wsX4_hammer_r1 ++ (wsX4_hammer_r2 ++ wsX4_hammer_r3)) ++ wsX40)
def wsX4_exchange : List Cond := .code yX4_exchange cX4_exchange 4 (some .int) :: ([.fieldLink RX4 25 "InsideOutWordsModel" "thrown" "I", .fieldLink RX4 7 "InsideOutWordsModel" "now" "[I", .methodLink RX4 85 yX4_isWord, .static yX4_isWord, .initialized RX4, .code yX4_isWord cX4_isWord 1 (some .boolean), .methodLink RX4 29 yX4_in, .static yX4_in, .code yX4_in cX4_in 3 (some .boolean), .methodLink RX4 40 yX4_fails, .instanceMethod yX4_fails, .selects RX4 yX4_fails yX4_fails, .code yX4_fails cX4_fails 2 (some .int), .methodLink RX4 92 yX4_saves, .instanceMethod yX4_saves, .selects RX4 yX4_saves yX4_saves, .code yX4_saves cX4_saves 2 none, .fieldLink RX4 33 "InsideOutWordsModel" "kept" "I", .fieldLink RX4 16 "InsideOutWordsModel" "past" "[I", .methodLink RX4 36 yX4_copies, .static yX4_copies, .code yX4_copies cX4_copies 5 none] ++ wsX40)
def wsX4_wear_r1 : List Cond := [Cond.fieldLink RX4 25 "InsideOutWordsModel" "thrown" "I", Cond.fieldLink RX4 7 "InsideOutWordsModel" "now" "[I", Cond.constant RX4 101 (99999), Cond.methodLink RX4 98 yX4_isSlot, Cond.static yX4_isSlot, Cond.initialized RX4, Cond.code yX4_isSlot cX4_isSlot 1 (some .boolean), Cond.methodLink RX4 29 yX4_in, Cond.static yX4_in, Cond.code yX4_in cX4_in 3 (some .boolean), Cond.methodLink RX4 40 yX4_fails, Cond.instanceMethod yX4_fails, Cond.selects RX4 yX4_fails yX4_fails, Cond.code yX4_fails cX4_fails 2 (some .int), Cond.methodLink RX4 44 yX4_worn, Cond.static yX4_worn, Cond.code yX4_worn cX4_worn 3 (some .int), Cond.methodLink RX4 92 yX4_saves, Cond.instanceMethod yX4_saves, Cond.selects RX4 yX4_saves yX4_saves, Cond.code yX4_saves cX4_saves 2 none, Cond.fieldLink RX4 33 "InsideOutWordsModel" "kept" "I", Cond.fieldLink RX4 16 "InsideOutWordsModel" "past" "[I", Cond.methodLink RX4 36 yX4_copies]
def wsX4_wear_r2 : List Cond := [Cond.static yX4_copies, Cond.code yX4_copies cX4_copies 5 none]
def wsX4_wear : List Cond := .code yX4_wear cX4_wear 4 (some .int) :: ((wsX4_wear_r1 ++ wsX4_wear_r2) ++ wsX40)
def wsX4_set : List Cond := .code yX4_set cX4_set 4 (some .int) :: ([.fieldLink RX4 25 "InsideOutWordsModel" "thrown" "I", .fieldLink RX4 7 "InsideOutWordsModel" "now" "[I", .methodLink RX4 29 yX4_in, .static yX4_in, .initialized RX4, .code yX4_in cX4_in 3 (some .boolean), .methodLink RX4 40 yX4_fails, .instanceMethod yX4_fails, .selects RX4 yX4_fails yX4_fails, .code yX4_fails cX4_fails 2 (some .int), .methodLink RX4 92 yX4_saves, .instanceMethod yX4_saves, .selects RX4 yX4_saves yX4_saves, .code yX4_saves cX4_saves 2 none, .fieldLink RX4 33 "InsideOutWordsModel" "kept" "I", .fieldLink RX4 16 "InsideOutWordsModel" "past" "[I", .methodLink RX4 36 yX4_copies, .static yX4_copies, .code yX4_copies cX4_copies 5 none] ++ wsX40)
def wsX4_append : List Cond := .code yX4_append cX4_append 2 (some .int) :: ([.fieldLink RX4 25 "InsideOutWordsModel" "thrown" "I", .fieldLink RX4 102 "InsideOutWordsModel" "typed" "I", .fieldLink RX4 19 "InsideOutWordsModel" "text" "[I", .methodLink RX4 29 yX4_in, .static yX4_in, .initialized RX4, .code yX4_in cX4_in 3 (some .boolean), .methodLink RX4 40 yX4_fails, .instanceMethod yX4_fails, .selects RX4 yX4_fails yX4_fails, .code yX4_fails cX4_fails 2 (some .int)] ++ wsX40)
def wsX4_clearBuffer : List Cond := .code yX4_clearBuffer cX4_clearBuffer 2 (some .int) :: ([.fieldLink RX4 25 "InsideOutWordsModel" "thrown" "I", .fieldLink RX4 102 "InsideOutWordsModel" "typed" "I"] ++ wsX40)
def wsX4_isAt : List Cond := .code yX4_isAt cX4_isAt 3 (some .boolean) :: ([.fieldLink RX4 105 "InsideOutWordsModel" "at" "I", .fieldLink RX4 102 "InsideOutWordsModel" "typed" "I", .fieldLink RX4 19 "InsideOutWordsModel" "text" "[I", .methodLink RX4 29 yX4_in, .static yX4_in, .initialized RX4, .code yX4_in cX4_in 3 (some .boolean)] ++ wsX40)
def wsX4_stops : List Cond := .code yX4_stops cX4_stops 1 (some .boolean) :: ([.fieldLink RX4 105 "InsideOutWordsModel" "at" "I", .fieldLink RX4 102 "InsideOutWordsModel" "typed" "I", .fieldLink RX4 108 "InsideOutWordsModel" "isFault" "Z"] ++ wsX40)
def wsX4_isValue : List Cond := .code yX4_isValue cX4_isValue 1 (some .boolean) :: ([.fieldLink RX4 19 "InsideOutWordsModel" "text" "[I", .fieldLink RX4 105 "InsideOutWordsModel" "at" "I", .fieldLink RX4 120 "InsideOutWordsModel" "value" "I", .methodLink RX4 112 yX4_isAt, .instanceMethod yX4_isAt, .selects RX4 yX4_isAt yX4_isAt, .initialized RX4, .code yX4_isAt cX4_isAt 3 (some .boolean), .fieldLink RX4 102 "InsideOutWordsModel" "typed" "I", .methodLink RX4 29 yX4_in, .static yX4_in, .code yX4_in cX4_in 3 (some .boolean), .methodLink RX4 116 yX4_stops, .instanceMethod yX4_stops, .selects RX4 yX4_stops yX4_stops, .code yX4_stops cX4_stops 1 (some .boolean), .fieldLink RX4 108 "InsideOutWordsModel" "isFault" "Z", .methodLink RX4 89 yX4_isNumber, .static yX4_isNumber, .code yX4_isNumber cX4_isNumber 1 (some .boolean)] ++ wsX40)
def wsX4_isPart_r1 : List Cond := [Cond.fieldLink RX4 19 "InsideOutWordsModel" "text" "[I", Cond.fieldLink RX4 105 "InsideOutWordsModel" "at" "I", Cond.fieldLink RX4 22 "InsideOutWordsModel" "told" "[I", Cond.fieldLink RX4 126 "InsideOutWordsModel" "tolds" "I", Cond.fieldLink RX4 120 "InsideOutWordsModel" "value" "I", Cond.methodLink RX4 112 yX4_isAt, Cond.instanceMethod yX4_isAt, Cond.selects RX4 yX4_isAt yX4_isAt, Cond.initialized RX4, Cond.code yX4_isAt cX4_isAt 3 (some .boolean), Cond.fieldLink RX4 102 "InsideOutWordsModel" "typed" "I", Cond.methodLink RX4 29 yX4_in, Cond.static yX4_in, Cond.code yX4_in cX4_in 3 (some .boolean), Cond.methodLink RX4 116 yX4_stops, Cond.instanceMethod yX4_stops, Cond.selects RX4 yX4_stops yX4_stops, Cond.code yX4_stops cX4_stops 1 (some .boolean), Cond.fieldLink RX4 108 "InsideOutWordsModel" "isFault" "Z", Cond.methodLink RX4 123 yX4_isValue, Cond.instanceMethod yX4_isValue, Cond.selects RX4 yX4_isValue yX4_isValue, Cond.code yX4_isValue cX4_isValue 1 (some .boolean), Cond.methodLink RX4 89 yX4_isNumber]
def wsX4_isPart_r2 : List Cond := [Cond.static yX4_isNumber, Cond.code yX4_isNumber cX4_isNumber 1 (some .boolean)]
def wsX4_isPart : List Cond := .code yX4_isPart cX4_isPart 3 (some .boolean) :: ((wsX4_isPart_r1 ++ wsX4_isPart_r2) ++ wsX40)
def wsX4_isText_r1 : List Cond := [Cond.fieldLink RX4 105 "InsideOutWordsModel" "at" "I", Cond.fieldLink RX4 126 "InsideOutWordsModel" "tolds" "I", Cond.fieldLink RX4 108 "InsideOutWordsModel" "isFault" "Z", Cond.fieldLink RX4 102 "InsideOutWordsModel" "typed" "I", Cond.methodLink RX4 129 yX4_isPart, Cond.instanceMethod yX4_isPart, Cond.selects RX4 yX4_isPart yX4_isPart, Cond.initialized RX4, Cond.code yX4_isPart cX4_isPart 3 (some .boolean), Cond.fieldLink RX4 19 "InsideOutWordsModel" "text" "[I", Cond.fieldLink RX4 22 "InsideOutWordsModel" "told" "[I", Cond.fieldLink RX4 120 "InsideOutWordsModel" "value" "I", Cond.methodLink RX4 112 yX4_isAt, Cond.instanceMethod yX4_isAt, Cond.selects RX4 yX4_isAt yX4_isAt, Cond.code yX4_isAt cX4_isAt 3 (some .boolean), Cond.methodLink RX4 29 yX4_in, Cond.static yX4_in, Cond.code yX4_in cX4_in 3 (some .boolean), Cond.methodLink RX4 116 yX4_stops, Cond.instanceMethod yX4_stops, Cond.selects RX4 yX4_stops yX4_stops, Cond.code yX4_stops cX4_stops 1 (some .boolean), Cond.methodLink RX4 123 yX4_isValue]
def wsX4_isText_r2 : List Cond := [Cond.instanceMethod yX4_isValue, Cond.selects RX4 yX4_isValue yX4_isValue, Cond.code yX4_isValue cX4_isValue 1 (some .boolean), Cond.methodLink RX4 89 yX4_isNumber, Cond.static yX4_isNumber, Cond.code yX4_isNumber cX4_isNumber 1 (some .boolean)]
def wsX4_isText : List Cond := .code yX4_isText cX4_isText 2 (some .boolean) :: ((wsX4_isText_r1 ++ wsX4_isText_r2) ++ wsX40)
def wsX4_firstError_r1 : List Cond := [Cond.fieldLink RX4 25 "InsideOutWordsModel" "thrown" "I", Cond.fieldLink RX4 108 "InsideOutWordsModel" "isFault" "Z", Cond.fieldLink RX4 105 "InsideOutWordsModel" "at" "I", Cond.fieldLink RX4 102 "InsideOutWordsModel" "typed" "I", Cond.methodLink RX4 132 yX4_isText, Cond.instanceMethod yX4_isText, Cond.selects RX4 yX4_isText yX4_isText, Cond.initialized RX4, Cond.code yX4_isText cX4_isText 2 (some .boolean), Cond.fieldLink RX4 126 "InsideOutWordsModel" "tolds" "I", Cond.methodLink RX4 129 yX4_isPart, Cond.instanceMethod yX4_isPart, Cond.selects RX4 yX4_isPart yX4_isPart, Cond.code yX4_isPart cX4_isPart 3 (some .boolean), Cond.fieldLink RX4 19 "InsideOutWordsModel" "text" "[I", Cond.fieldLink RX4 22 "InsideOutWordsModel" "told" "[I", Cond.fieldLink RX4 120 "InsideOutWordsModel" "value" "I", Cond.methodLink RX4 112 yX4_isAt, Cond.instanceMethod yX4_isAt, Cond.selects RX4 yX4_isAt yX4_isAt, Cond.code yX4_isAt cX4_isAt 3 (some .boolean), Cond.methodLink RX4 29 yX4_in, Cond.static yX4_in, Cond.code yX4_in cX4_in 3 (some .boolean)]
def wsX4_firstError_r2 : List Cond := [Cond.methodLink RX4 116 yX4_stops, Cond.instanceMethod yX4_stops, Cond.selects RX4 yX4_stops yX4_stops, Cond.code yX4_stops cX4_stops 1 (some .boolean), Cond.methodLink RX4 123 yX4_isValue, Cond.instanceMethod yX4_isValue, Cond.selects RX4 yX4_isValue yX4_isValue, Cond.code yX4_isValue cX4_isValue 1 (some .boolean), Cond.methodLink RX4 89 yX4_isNumber, Cond.static yX4_isNumber, Cond.code yX4_isNumber cX4_isNumber 1 (some .boolean)]
def wsX4_firstError : List Cond := .code yX4_firstError cX4_firstError 2 (some .int) :: ((wsX4_firstError_r1 ++ wsX4_firstError_r2) ++ wsX40)
def wsX4_writeAll_r1 : List Cond := [Cond.fieldLink RX4 25 "InsideOutWordsModel" "thrown" "I", Cond.fieldLink RX4 102 "InsideOutWordsModel" "typed" "I", Cond.fieldLink RX4 126 "InsideOutWordsModel" "tolds" "I", Cond.fieldLink RX4 7 "InsideOutWordsModel" "now" "[I", Cond.fieldLink RX4 22 "InsideOutWordsModel" "told" "[I", Cond.methodLink RX4 132 yX4_isText, Cond.instanceMethod yX4_isText, Cond.selects RX4 yX4_isText yX4_isText, Cond.initialized RX4, Cond.code yX4_isText cX4_isText 2 (some .boolean), Cond.fieldLink RX4 105 "InsideOutWordsModel" "at" "I", Cond.fieldLink RX4 108 "InsideOutWordsModel" "isFault" "Z", Cond.methodLink RX4 129 yX4_isPart, Cond.instanceMethod yX4_isPart, Cond.selects RX4 yX4_isPart yX4_isPart, Cond.code yX4_isPart cX4_isPart 3 (some .boolean), Cond.fieldLink RX4 19 "InsideOutWordsModel" "text" "[I", Cond.fieldLink RX4 120 "InsideOutWordsModel" "value" "I", Cond.methodLink RX4 112 yX4_isAt, Cond.instanceMethod yX4_isAt, Cond.selects RX4 yX4_isAt yX4_isAt, Cond.code yX4_isAt cX4_isAt 3 (some .boolean), Cond.methodLink RX4 29 yX4_in, Cond.static yX4_in]
def wsX4_writeAll_r2 : List Cond := [Cond.code yX4_in cX4_in 3 (some .boolean), Cond.methodLink RX4 116 yX4_stops, Cond.instanceMethod yX4_stops, Cond.selects RX4 yX4_stops yX4_stops, Cond.code yX4_stops cX4_stops 1 (some .boolean), Cond.methodLink RX4 123 yX4_isValue, Cond.instanceMethod yX4_isValue, Cond.selects RX4 yX4_isValue yX4_isValue, Cond.code yX4_isValue cX4_isValue 1 (some .boolean), Cond.methodLink RX4 89 yX4_isNumber, Cond.static yX4_isNumber, Cond.code yX4_isNumber cX4_isNumber 1 (some .boolean), Cond.methodLink RX4 40 yX4_fails, Cond.instanceMethod yX4_fails, Cond.selects RX4 yX4_fails yX4_fails, Cond.code yX4_fails cX4_fails 2 (some .int), Cond.methodLink RX4 92 yX4_saves, Cond.instanceMethod yX4_saves, Cond.selects RX4 yX4_saves yX4_saves, Cond.code yX4_saves cX4_saves 2 none, Cond.fieldLink RX4 33 "InsideOutWordsModel" "kept" "I", Cond.fieldLink RX4 16 "InsideOutWordsModel" "past" "[I", Cond.methodLink RX4 36 yX4_copies, Cond.static yX4_copies]
def wsX4_writeAll_r3 : List Cond := [Cond.code yX4_copies cX4_copies 5 none, Cond.methodLink RX4 82 yX4_writes, Cond.static yX4_writes, Cond.code yX4_writes cX4_writes 8 (some .int), Cond.methodLink RX4 76 yX4_goesTo, Cond.static yX4_goesTo, Cond.code yX4_goesTo cX4_goesTo 5 (some .int), Cond.methodLink RX4 69 yX4_isHot, Cond.static yX4_isHot, Cond.code yX4_isHot cX4_isHot 2 (some .boolean), Cond.methodLink RX4 73 yX4_free, Cond.static yX4_free, Cond.code yX4_free cX4_free 5 (some .int), Cond.methodLink RX4 59 yX4_wordOf, Cond.static yX4_wordOf, Cond.code yX4_wordOf cX4_wordOf 4 (some .int), Cond.methodLink RX4 62 yX4_bars, Cond.static yX4_bars, Cond.code yX4_bars cX4_bars 3 (some .boolean), Cond.methodLink RX4 55 yX4_stuck, Cond.static yX4_stuck, Cond.code yX4_stuck cX4_stuck 4 (some .int), Cond.methodLink RX4 44 yX4_worn, Cond.static yX4_worn]
def wsX4_writeAll_r4 : List Cond := [Cond.code yX4_worn cX4_worn 3 (some .int), Cond.methodLink RX4 51 yX4_taken, Cond.static yX4_taken, Cond.code yX4_taken cX4_taken 10 (some .int), Cond.methodLink RX4 48 yX4_ones, Cond.static yX4_ones, Cond.code yX4_ones cX4_ones 3 (some .int), Cond.methodLink RX4 66 yX4_allWear, Cond.static yX4_allWear, Cond.code yX4_allWear cX4_allWear 4 (some .int), Cond.methodLink RX4 79 yX4_reads, Cond.static yX4_reads, Cond.code yX4_reads cX4_reads 3 (some .int)]
def wsX4_writeAll : List Cond := .code yX4_writeAll cX4_writeAll 2 (some .int) :: ((wsX4_writeAll_r1 ++ (wsX4_writeAll_r2 ++ (wsX4_writeAll_r3 ++ wsX4_writeAll_r4))) ++ wsX40)
def wsX4_read : List Cond := .code yX4_read cX4_read 2 (some .int) :: ([.fieldLink RX4 25 "InsideOutWordsModel" "thrown" "I", .fieldLink RX4 7 "InsideOutWordsModel" "now" "[I", .methodLink RX4 85 yX4_isWord, .static yX4_isWord, .initialized RX4, .code yX4_isWord cX4_isWord 1 (some .boolean), .methodLink RX4 29 yX4_in, .static yX4_in, .code yX4_in cX4_in 3 (some .boolean), .methodLink RX4 79 yX4_reads, .static yX4_reads, .code yX4_reads cX4_reads 3 (some .int), .methodLink RX4 40 yX4_fails, .instanceMethod yX4_fails, .selects RX4 yX4_fails yX4_fails, .code yX4_fails cX4_fails 2 (some .int)] ++ wsX40)
def wsX4_ofWord : List Cond := .code yX4_ofWord cX4_ofWord 3 (some .int) :: ([.fieldLink RX4 7 "InsideOutWordsModel" "now" "[I", .methodLink RX4 69 yX4_isHot, .static yX4_isHot, .initialized RX4, .code yX4_isHot cX4_isHot 2 (some .boolean)] ++ wsX40)
def wsX4_word : List Cond := .code yX4_word cX4_word 3 (some .int) :: ([.fieldLink RX4 25 "InsideOutWordsModel" "thrown" "I", .methodLink RX4 85 yX4_isWord, .static yX4_isWord, .initialized RX4, .code yX4_isWord cX4_isWord 1 (some .boolean), .methodLink RX4 29 yX4_in, .static yX4_in, .code yX4_in cX4_in 3 (some .boolean), .methodLink RX4 40 yX4_fails, .instanceMethod yX4_fails, .selects RX4 yX4_fails yX4_fails, .code yX4_fails cX4_fails 2 (some .int), .methodLink RX4 135 yX4_ofWord, .instanceMethod yX4_ofWord, .selects RX4 yX4_ofWord yX4_ofWord, .code yX4_ofWord cX4_ofWord 3 (some .int), .fieldLink RX4 7 "InsideOutWordsModel" "now" "[I", .methodLink RX4 69 yX4_isHot, .static yX4_isHot, .code yX4_isHot cX4_isHot 2 (some .boolean)] ++ wsX40)
def wsX4_mostWorn : List Cond := .code yX4_mostWorn cX4_mostWorn 4 (some .int) :: ([.fieldLink RX4 7 "InsideOutWordsModel" "now" "[I", .methodLink RX4 44 yX4_worn, .static yX4_worn, .initialized RX4, .code yX4_worn cX4_worn 3 (some .int)] ++ wsX40)
def wsX4_ofSlot : List Cond := .code yX4_ofSlot cX4_ofSlot 3 (some .int) :: ([.fieldLink RX4 7 "InsideOutWordsModel" "now" "[I", .methodLink RX4 59 yX4_wordOf, .static yX4_wordOf, .initialized RX4, .code yX4_wordOf cX4_wordOf 4 (some .int), .methodLink RX4 66 yX4_allWear, .static yX4_allWear, .code yX4_allWear cX4_allWear 4 (some .int), .methodLink RX4 44 yX4_worn, .static yX4_worn, .code yX4_worn cX4_worn 3 (some .int), .methodLink RX4 55 yX4_stuck, .static yX4_stuck, .code yX4_stuck cX4_stuck 4 (some .int), .methodLink RX4 139 yX4_mostWorn, .instanceMethod yX4_mostWorn, .selects RX4 yX4_mostWorn yX4_mostWorn, .code yX4_mostWorn cX4_mostWorn 4 (some .int)] ++ wsX40)
def wsX4_slot_r1 : List Cond := [Cond.fieldLink RX4 25 "InsideOutWordsModel" "thrown" "I", Cond.methodLink RX4 98 yX4_isSlot, Cond.static yX4_isSlot, Cond.initialized RX4, Cond.code yX4_isSlot cX4_isSlot 1 (some .boolean), Cond.methodLink RX4 29 yX4_in, Cond.static yX4_in, Cond.code yX4_in cX4_in 3 (some .boolean), Cond.methodLink RX4 40 yX4_fails, Cond.instanceMethod yX4_fails, Cond.selects RX4 yX4_fails yX4_fails, Cond.code yX4_fails cX4_fails 2 (some .int), Cond.methodLink RX4 142 yX4_ofSlot, Cond.instanceMethod yX4_ofSlot, Cond.selects RX4 yX4_ofSlot yX4_ofSlot, Cond.code yX4_ofSlot cX4_ofSlot 3 (some .int), Cond.fieldLink RX4 7 "InsideOutWordsModel" "now" "[I", Cond.methodLink RX4 59 yX4_wordOf, Cond.static yX4_wordOf, Cond.code yX4_wordOf cX4_wordOf 4 (some .int), Cond.methodLink RX4 66 yX4_allWear, Cond.static yX4_allWear, Cond.code yX4_allWear cX4_allWear 4 (some .int), Cond.methodLink RX4 44 yX4_worn]
def wsX4_slot_r2 : List Cond := [Cond.static yX4_worn, Cond.code yX4_worn cX4_worn 3 (some .int), Cond.methodLink RX4 55 yX4_stuck, Cond.static yX4_stuck, Cond.code yX4_stuck cX4_stuck 4 (some .int), Cond.methodLink RX4 139 yX4_mostWorn, Cond.instanceMethod yX4_mostWorn, Cond.selects RX4 yX4_mostWorn yX4_mostWorn, Cond.code yX4_mostWorn cX4_mostWorn 4 (some .int)]
def wsX4_slot : List Cond := .code yX4_slot cX4_slot 3 (some .int) :: ((wsX4_slot_r1 ++ wsX4_slot_r2) ++ wsX40)
def wsX4_wearOf : List Cond := .code yX4_wearOf cX4_wearOf 3 (some .int) :: ([.fieldLink RX4 25 "InsideOutWordsModel" "thrown" "I", .fieldLink RX4 7 "InsideOutWordsModel" "now" "[I", .methodLink RX4 98 yX4_isSlot, .static yX4_isSlot, .initialized RX4, .code yX4_isSlot cX4_isSlot 1 (some .boolean), .methodLink RX4 29 yX4_in, .static yX4_in, .code yX4_in cX4_in 3 (some .boolean), .methodLink RX4 44 yX4_worn, .static yX4_worn, .code yX4_worn cX4_worn 3 (some .int), .methodLink RX4 40 yX4_fails, .instanceMethod yX4_fails, .selects RX4 yX4_fails yX4_fails, .code yX4_fails cX4_fails 2 (some .int)] ++ wsX40)
def wsX4_stuckCells : List Cond := .code yX4_stuckCells cX4_stuckCells 3 (some .int) :: ([.fieldLink RX4 7 "InsideOutWordsModel" "now" "[I", .methodLink RX4 55 yX4_stuck, .static yX4_stuck, .initialized RX4, .code yX4_stuck cX4_stuck 4 (some .int), .methodLink RX4 44 yX4_worn, .static yX4_worn, .code yX4_worn cX4_worn 3 (some .int), .methodLink RX4 48 yX4_ones, .static yX4_ones, .code yX4_ones cX4_ones 3 (some .int)] ++ wsX40)
def wsX4_overWords : List Cond := .code yX4_overWords cX4_overWords 4 (some .int) :: ([.fieldLink RX4 7 "InsideOutWordsModel" "now" "[I", .methodLink RX4 135 yX4_ofWord, .instanceMethod yX4_ofWord, .selects RX4 yX4_ofWord yX4_ofWord, .initialized RX4, .code yX4_ofWord cX4_ofWord 3 (some .int), .methodLink RX4 69 yX4_isHot, .static yX4_isHot, .code yX4_isHot cX4_isHot 2 (some .boolean), .methodLink RX4 79 yX4_reads, .static yX4_reads, .code yX4_reads cX4_reads 3 (some .int)] ++ wsX40)
def wsX4_counted_r1 : List Cond := [Cond.fieldLink RX4 7 "InsideOutWordsModel" "now" "[I", Cond.fieldLink RX4 33 "InsideOutWordsModel" "kept" "I", Cond.methodLink RX4 145 yX4_stuckCells, Cond.instanceMethod yX4_stuckCells, Cond.selects RX4 yX4_stuckCells yX4_stuckCells, Cond.initialized RX4, Cond.code yX4_stuckCells cX4_stuckCells 3 (some .int), Cond.methodLink RX4 55 yX4_stuck, Cond.static yX4_stuck, Cond.code yX4_stuck cX4_stuck 4 (some .int), Cond.methodLink RX4 44 yX4_worn, Cond.static yX4_worn, Cond.code yX4_worn cX4_worn 3 (some .int), Cond.methodLink RX4 48 yX4_ones, Cond.static yX4_ones, Cond.code yX4_ones cX4_ones 3 (some .int), Cond.methodLink RX4 73 yX4_free, Cond.static yX4_free, Cond.code yX4_free cX4_free 5 (some .int), Cond.methodLink RX4 59 yX4_wordOf, Cond.static yX4_wordOf, Cond.code yX4_wordOf cX4_wordOf 4 (some .int), Cond.methodLink RX4 62 yX4_bars, Cond.static yX4_bars]
def wsX4_counted_r2 : List Cond := [Cond.code yX4_bars cX4_bars 3 (some .boolean), Cond.methodLink RX4 51 yX4_taken, Cond.static yX4_taken, Cond.code yX4_taken cX4_taken 10 (some .int), Cond.methodLink RX4 66 yX4_allWear, Cond.static yX4_allWear, Cond.code yX4_allWear cX4_allWear 4 (some .int), Cond.methodLink RX4 149 yX4_overWords, Cond.instanceMethod yX4_overWords, Cond.selects RX4 yX4_overWords yX4_overWords, Cond.code yX4_overWords cX4_overWords 4 (some .int), Cond.methodLink RX4 135 yX4_ofWord, Cond.instanceMethod yX4_ofWord, Cond.selects RX4 yX4_ofWord yX4_ofWord, Cond.code yX4_ofWord cX4_ofWord 3 (some .int), Cond.methodLink RX4 69 yX4_isHot, Cond.static yX4_isHot, Cond.code yX4_isHot cX4_isHot 2 (some .boolean), Cond.methodLink RX4 79 yX4_reads, Cond.static yX4_reads, Cond.code yX4_reads cX4_reads 3 (some .int)]
def wsX4_counted : List Cond := .code yX4_counted cX4_counted 2 (some .int) :: ((wsX4_counted_r1 ++ wsX4_counted_r2) ++ wsX40)
def wsX4_count_r1 : List Cond := [Cond.fieldLink RX4 25 "InsideOutWordsModel" "thrown" "I", Cond.methodLink RX4 29 yX4_in, Cond.static yX4_in, Cond.initialized RX4, Cond.code yX4_in cX4_in 3 (some .boolean), Cond.methodLink RX4 153 yX4_counted, Cond.instanceMethod yX4_counted, Cond.selects RX4 yX4_counted yX4_counted, Cond.code yX4_counted cX4_counted 2 (some .int), Cond.fieldLink RX4 7 "InsideOutWordsModel" "now" "[I", Cond.fieldLink RX4 33 "InsideOutWordsModel" "kept" "I", Cond.methodLink RX4 145 yX4_stuckCells, Cond.instanceMethod yX4_stuckCells, Cond.selects RX4 yX4_stuckCells yX4_stuckCells, Cond.code yX4_stuckCells cX4_stuckCells 3 (some .int), Cond.methodLink RX4 55 yX4_stuck, Cond.static yX4_stuck, Cond.code yX4_stuck cX4_stuck 4 (some .int), Cond.methodLink RX4 44 yX4_worn, Cond.static yX4_worn, Cond.code yX4_worn cX4_worn 3 (some .int), Cond.methodLink RX4 48 yX4_ones, Cond.static yX4_ones, Cond.code yX4_ones cX4_ones 3 (some .int)]
def wsX4_count_r2 : List Cond := [Cond.methodLink RX4 73 yX4_free, Cond.static yX4_free, Cond.code yX4_free cX4_free 5 (some .int), Cond.methodLink RX4 59 yX4_wordOf, Cond.static yX4_wordOf, Cond.code yX4_wordOf cX4_wordOf 4 (some .int), Cond.methodLink RX4 62 yX4_bars, Cond.static yX4_bars, Cond.code yX4_bars cX4_bars 3 (some .boolean), Cond.methodLink RX4 51 yX4_taken, Cond.static yX4_taken, Cond.code yX4_taken cX4_taken 10 (some .int), Cond.methodLink RX4 66 yX4_allWear, Cond.static yX4_allWear, Cond.code yX4_allWear cX4_allWear 4 (some .int), Cond.methodLink RX4 149 yX4_overWords, Cond.instanceMethod yX4_overWords, Cond.selects RX4 yX4_overWords yX4_overWords, Cond.code yX4_overWords cX4_overWords 4 (some .int), Cond.methodLink RX4 135 yX4_ofWord, Cond.instanceMethod yX4_ofWord, Cond.selects RX4 yX4_ofWord yX4_ofWord, Cond.code yX4_ofWord cX4_ofWord 3 (some .int), Cond.methodLink RX4 69 yX4_isHot]
def wsX4_count_r3 : List Cond := [Cond.static yX4_isHot, Cond.code yX4_isHot cX4_isHot 2 (some .boolean), Cond.methodLink RX4 79 yX4_reads, Cond.static yX4_reads, Cond.code yX4_reads cX4_reads 3 (some .int), Cond.methodLink RX4 40 yX4_fails, Cond.instanceMethod yX4_fails, Cond.selects RX4 yX4_fails yX4_fails, Cond.code yX4_fails cX4_fails 2 (some .int)]
def wsX4_count : List Cond := .code yX4_count cX4_count 2 (some .int) :: ((wsX4_count_r1 ++ (wsX4_count_r2 ++ wsX4_count_r3)) ++ wsX40)
def wsX4_setting : List Cond := .code yX4_setting cX4_setting 2 (some .int) :: ([.fieldLink RX4 25 "InsideOutWordsModel" "thrown" "I", .fieldLink RX4 7 "InsideOutWordsModel" "now" "[I", .methodLink RX4 29 yX4_in, .static yX4_in, .initialized RX4, .code yX4_in cX4_in 3 (some .boolean), .methodLink RX4 40 yX4_fails, .instanceMethod yX4_fails, .selects RX4 yX4_fails yX4_fails, .code yX4_fails cX4_fails 2 (some .int)] ++ wsX40)
def wsX4_cost_r1 : List Cond := [Cond.fieldLink RX4 25 "InsideOutWordsModel" "thrown" "I", Cond.fieldLink RX4 7 "InsideOutWordsModel" "now" "[I", Cond.methodLink RX4 98 yX4_isSlot, Cond.static yX4_isSlot, Cond.initialized RX4, Cond.code yX4_isSlot cX4_isSlot 1 (some .boolean), Cond.methodLink RX4 29 yX4_in, Cond.static yX4_in, Cond.code yX4_in cX4_in 3 (some .boolean), Cond.methodLink RX4 40 yX4_fails, Cond.instanceMethod yX4_fails, Cond.selects RX4 yX4_fails yX4_fails, Cond.code yX4_fails cX4_fails 2 (some .int), Cond.methodLink RX4 89 yX4_isNumber, Cond.static yX4_isNumber, Cond.code yX4_isNumber cX4_isNumber 1 (some .boolean), Cond.methodLink RX4 55 yX4_stuck, Cond.static yX4_stuck, Cond.code yX4_stuck cX4_stuck 4 (some .int), Cond.methodLink RX4 44 yX4_worn, Cond.static yX4_worn, Cond.code yX4_worn cX4_worn 3 (some .int), Cond.methodLink RX4 156 yX4_costs, Cond.static yX4_costs]
def wsX4_cost_r2 : List Cond := [Cond.code yX4_costs cX4_costs 5 (some .int), Cond.methodLink RX4 51 yX4_taken, Cond.static yX4_taken, Cond.code yX4_taken cX4_taken 10 (some .int), Cond.methodLink RX4 48 yX4_ones, Cond.static yX4_ones, Cond.code yX4_ones cX4_ones 3 (some .int)]
def wsX4_cost : List Cond := .code yX4_cost cX4_cost 3 (some .int) :: ((wsX4_cost_r1 ++ wsX4_cost_r2) ++ wsX40)
def wsX4_ifWritten_r1 : List Cond := [Cond.fieldLink RX4 25 "InsideOutWordsModel" "thrown" "I", Cond.fieldLink RX4 7 "InsideOutWordsModel" "now" "[I", Cond.methodLink RX4 85 yX4_isWord, Cond.static yX4_isWord, Cond.initialized RX4, Cond.code yX4_isWord cX4_isWord 1 (some .boolean), Cond.methodLink RX4 29 yX4_in, Cond.static yX4_in, Cond.code yX4_in cX4_in 3 (some .boolean), Cond.methodLink RX4 40 yX4_fails, Cond.instanceMethod yX4_fails, Cond.selects RX4 yX4_fails yX4_fails, Cond.code yX4_fails cX4_fails 2 (some .int), Cond.methodLink RX4 89 yX4_isNumber, Cond.static yX4_isNumber, Cond.code yX4_isNumber cX4_isNumber 1 (some .boolean), Cond.methodLink RX4 76 yX4_goesTo, Cond.static yX4_goesTo, Cond.code yX4_goesTo cX4_goesTo 5 (some .int), Cond.methodLink RX4 69 yX4_isHot, Cond.static yX4_isHot, Cond.code yX4_isHot cX4_isHot 2 (some .boolean), Cond.methodLink RX4 73 yX4_free, Cond.static yX4_free]
def wsX4_ifWritten_r2 : List Cond := [Cond.code yX4_free cX4_free 5 (some .int), Cond.methodLink RX4 59 yX4_wordOf, Cond.static yX4_wordOf, Cond.code yX4_wordOf cX4_wordOf 4 (some .int), Cond.methodLink RX4 62 yX4_bars, Cond.static yX4_bars, Cond.code yX4_bars cX4_bars 3 (some .boolean), Cond.methodLink RX4 55 yX4_stuck, Cond.static yX4_stuck, Cond.code yX4_stuck cX4_stuck 4 (some .int), Cond.methodLink RX4 44 yX4_worn, Cond.static yX4_worn, Cond.code yX4_worn cX4_worn 3 (some .int), Cond.methodLink RX4 51 yX4_taken, Cond.static yX4_taken, Cond.code yX4_taken cX4_taken 10 (some .int), Cond.methodLink RX4 48 yX4_ones, Cond.static yX4_ones, Cond.code yX4_ones cX4_ones 3 (some .int), Cond.methodLink RX4 66 yX4_allWear, Cond.static yX4_allWear, Cond.code yX4_allWear cX4_allWear 4 (some .int)]
def wsX4_ifWritten : List Cond := .code yX4_ifWritten cX4_ifWritten 3 (some .int) :: ((wsX4_ifWritten_r1 ++ wsX4_ifWritten_r2) ++ wsX40)
def wsX4_dearest : List Cond := .code yX4_dearest cX4_dearest 8 (some .int) :: ([.fieldLink RX4 7 "InsideOutWordsModel" "now" "[I", .methodLink RX4 55 yX4_stuck, .static yX4_stuck, .initialized RX4, .code yX4_stuck cX4_stuck 4 (some .int), .methodLink RX4 44 yX4_worn, .static yX4_worn, .code yX4_worn cX4_worn 3 (some .int), .methodLink RX4 156 yX4_costs, .static yX4_costs, .code yX4_costs cX4_costs 5 (some .int), .methodLink RX4 51 yX4_taken, .static yX4_taken, .code yX4_taken cX4_taken 10 (some .int), .methodLink RX4 48 yX4_ones, .static yX4_ones, .code yX4_ones cX4_ones 3 (some .int)] ++ wsX40)
def wsX4_costliest_r1 : List Cond := [Cond.fieldLink RX4 25 "InsideOutWordsModel" "thrown" "I", Cond.methodLink RX4 85 yX4_isWord, Cond.static yX4_isWord, Cond.initialized RX4, Cond.code yX4_isWord cX4_isWord 1 (some .boolean), Cond.methodLink RX4 29 yX4_in, Cond.static yX4_in, Cond.code yX4_in cX4_in 3 (some .boolean), Cond.methodLink RX4 159 yX4_dearest, Cond.instanceMethod yX4_dearest, Cond.selects RX4 yX4_dearest yX4_dearest, Cond.code yX4_dearest cX4_dearest 8 (some .int), Cond.fieldLink RX4 7 "InsideOutWordsModel" "now" "[I", Cond.methodLink RX4 55 yX4_stuck, Cond.static yX4_stuck, Cond.code yX4_stuck cX4_stuck 4 (some .int), Cond.methodLink RX4 44 yX4_worn, Cond.static yX4_worn, Cond.code yX4_worn cX4_worn 3 (some .int), Cond.methodLink RX4 156 yX4_costs, Cond.static yX4_costs, Cond.code yX4_costs cX4_costs 5 (some .int), Cond.methodLink RX4 51 yX4_taken, Cond.static yX4_taken]
def wsX4_costliest_r2 : List Cond := [Cond.code yX4_taken cX4_taken 10 (some .int), Cond.methodLink RX4 48 yX4_ones, Cond.static yX4_ones, Cond.code yX4_ones cX4_ones 3 (some .int), Cond.methodLink RX4 40 yX4_fails, Cond.instanceMethod yX4_fails, Cond.selects RX4 yX4_fails yX4_fails, Cond.code yX4_fails cX4_fails 2 (some .int)]
def wsX4_costliest : List Cond := .code yX4_costliest cX4_costliest 2 (some .int) :: ((wsX4_costliest_r1 ++ wsX4_costliest_r2) ++ wsX40)
def wsX4_lives_r1 : List Cond := [Cond.fieldLink RX4 7 "InsideOutWordsModel" "now" "[I", Cond.fieldLink RX4 13 "InsideOutWordsModel" "then" "[I", Cond.methodLink RX4 36 yX4_copies, Cond.static yX4_copies, Cond.initialized RX4, Cond.code yX4_copies cX4_copies 5 none, Cond.methodLink RX4 95 yX4_hammers, Cond.static yX4_hammers, Cond.code yX4_hammers cX4_hammers 5 (some .int), Cond.methodLink RX4 82 yX4_writes, Cond.static yX4_writes, Cond.code yX4_writes cX4_writes 8 (some .int), Cond.methodLink RX4 76 yX4_goesTo, Cond.static yX4_goesTo, Cond.code yX4_goesTo cX4_goesTo 5 (some .int), Cond.methodLink RX4 69 yX4_isHot, Cond.static yX4_isHot, Cond.code yX4_isHot cX4_isHot 2 (some .boolean), Cond.methodLink RX4 73 yX4_free, Cond.static yX4_free, Cond.code yX4_free cX4_free 5 (some .int), Cond.methodLink RX4 59 yX4_wordOf, Cond.static yX4_wordOf, Cond.code yX4_wordOf cX4_wordOf 4 (some .int)]
def wsX4_lives_r2 : List Cond := [Cond.methodLink RX4 62 yX4_bars, Cond.static yX4_bars, Cond.code yX4_bars cX4_bars 3 (some .boolean), Cond.methodLink RX4 55 yX4_stuck, Cond.static yX4_stuck, Cond.code yX4_stuck cX4_stuck 4 (some .int), Cond.methodLink RX4 44 yX4_worn, Cond.static yX4_worn, Cond.code yX4_worn cX4_worn 3 (some .int), Cond.methodLink RX4 51 yX4_taken, Cond.static yX4_taken, Cond.code yX4_taken cX4_taken 10 (some .int), Cond.methodLink RX4 48 yX4_ones, Cond.static yX4_ones, Cond.code yX4_ones cX4_ones 3 (some .int), Cond.methodLink RX4 66 yX4_allWear, Cond.static yX4_allWear, Cond.code yX4_allWear cX4_allWear 4 (some .int), Cond.methodLink RX4 79 yX4_reads, Cond.static yX4_reads, Cond.code yX4_reads cX4_reads 3 (some .int)]
def wsX4_lives : List Cond := .code yX4_lives cX4_lives 3 (some .int) :: ((wsX4_lives_r1 ++ wsX4_lives_r2) ++ wsX40)
def wsX4_life_r1 : List Cond := [Cond.fieldLink RX4 25 "InsideOutWordsModel" "thrown" "I", Cond.methodLink RX4 85 yX4_isWord, Cond.static yX4_isWord, Cond.initialized RX4, Cond.code yX4_isWord cX4_isWord 1 (some .boolean), Cond.methodLink RX4 29 yX4_in, Cond.static yX4_in, Cond.code yX4_in cX4_in 3 (some .boolean), Cond.methodLink RX4 40 yX4_fails, Cond.instanceMethod yX4_fails, Cond.selects RX4 yX4_fails yX4_fails, Cond.code yX4_fails cX4_fails 2 (some .int), Cond.methodLink RX4 89 yX4_isNumber, Cond.static yX4_isNumber, Cond.code yX4_isNumber cX4_isNumber 1 (some .boolean), Cond.methodLink RX4 162 yX4_lives, Cond.instanceMethod yX4_lives, Cond.selects RX4 yX4_lives yX4_lives, Cond.code yX4_lives cX4_lives 3 (some .int), Cond.fieldLink RX4 7 "InsideOutWordsModel" "now" "[I", Cond.fieldLink RX4 13 "InsideOutWordsModel" "then" "[I", Cond.methodLink RX4 36 yX4_copies, Cond.static yX4_copies, Cond.code yX4_copies cX4_copies 5 none]
def wsX4_life_r2 : List Cond := [Cond.methodLink RX4 95 yX4_hammers, Cond.static yX4_hammers, Cond.code yX4_hammers cX4_hammers 5 (some .int), Cond.methodLink RX4 82 yX4_writes, Cond.static yX4_writes, Cond.code yX4_writes cX4_writes 8 (some .int), Cond.methodLink RX4 76 yX4_goesTo, Cond.static yX4_goesTo, Cond.code yX4_goesTo cX4_goesTo 5 (some .int), Cond.methodLink RX4 69 yX4_isHot, Cond.static yX4_isHot, Cond.code yX4_isHot cX4_isHot 2 (some .boolean), Cond.methodLink RX4 73 yX4_free, Cond.static yX4_free, Cond.code yX4_free cX4_free 5 (some .int), Cond.methodLink RX4 59 yX4_wordOf, Cond.static yX4_wordOf, Cond.code yX4_wordOf cX4_wordOf 4 (some .int), Cond.methodLink RX4 62 yX4_bars, Cond.static yX4_bars, Cond.code yX4_bars cX4_bars 3 (some .boolean), Cond.methodLink RX4 55 yX4_stuck, Cond.static yX4_stuck, Cond.code yX4_stuck cX4_stuck 4 (some .int)]
def wsX4_life_r3 : List Cond := [Cond.methodLink RX4 44 yX4_worn, Cond.static yX4_worn, Cond.code yX4_worn cX4_worn 3 (some .int), Cond.methodLink RX4 51 yX4_taken, Cond.static yX4_taken, Cond.code yX4_taken cX4_taken 10 (some .int), Cond.methodLink RX4 48 yX4_ones, Cond.static yX4_ones, Cond.code yX4_ones cX4_ones 3 (some .int), Cond.methodLink RX4 66 yX4_allWear, Cond.static yX4_allWear, Cond.code yX4_allWear cX4_allWear 4 (some .int), Cond.methodLink RX4 79 yX4_reads, Cond.static yX4_reads, Cond.code yX4_reads cX4_reads 3 (some .int)]
def wsX4_life : List Cond := .code yX4_life cX4_life 3 (some .int) :: ((wsX4_life_r1 ++ (wsX4_life_r2 ++ wsX4_life_r3)) ++ wsX40)
def wsX4_saved : List Cond := .code yX4_saved cX4_saved 1 (some .double) :: ([.fieldLink RX4 7 "InsideOutWordsModel" "now" "[I"] ++ wsX40)
def wsX4_share : List Cond := .code yX4_share cX4_share 1 (some .double) :: ([.fieldLink RX4 25 "InsideOutWordsModel" "thrown" "I", .methodLink RX4 165 yX4_saved, .instanceMethod yX4_saved, .selects RX4 yX4_saved yX4_saved, .initialized RX4, .code yX4_saved cX4_saved 1 (some .double), .fieldLink RX4 7 "InsideOutWordsModel" "now" "[I"] ++ wsX40)
def wsJxe99ae_isNaN_b9ae7 : List Cond := .code yJxe99ae_isNaN_b9ae7 cJxe99ae_isNaN_b9ae7 2 (some .boolean) :: ([])
def wsJxe99ae_doubleToLongBits_ccdee : List Cond := .code yJxe99ae_doubleToLongBits_ccdee cJxe99ae_doubleToLongBits_ccdee 2 (some .long) :: ([.methodLink RJxe99ae 134 ⟨"java/lang/Double", "doubleToRawLongBits", "(D)J"⟩, .native ⟨"java/lang/Double", "doubleToRawLongBits", "(D)J"⟩, .static ⟨"java/lang/Double", "doubleToRawLongBits", "(D)J"⟩, .initialized "java/lang/Double", .constantLong RJxe99ae 137 (9221120237041090560), .methodLink RJxe99ae 122 yJxe99ae_isNaN_b9ae7, .static yJxe99ae_isNaN_b9ae7, .initialized RJxe99ae, .code yJxe99ae_isNaN_b9ae7 cJxe99ae_isNaN_b9ae7 2 (some .boolean)])
def wsX4_digest_r1 : List Cond := [Cond.fieldLink RX4 25 "InsideOutWordsModel" "thrown" "I", Cond.constantLong RX4 169 (2969), Cond.constantLong RX4 171 (31), Cond.fieldLink RX4 7 "InsideOutWordsModel" "now" "[I", Cond.fieldLink RX4 102 "InsideOutWordsModel" "typed" "I", Cond.fieldLink RX4 19 "InsideOutWordsModel" "text" "[I", Cond.methodLink RX4 153 yX4_counted, Cond.instanceMethod yX4_counted, Cond.selects RX4 yX4_counted yX4_counted, Cond.initialized RX4, Cond.code yX4_counted cX4_counted 2 (some .int), Cond.fieldLink RX4 33 "InsideOutWordsModel" "kept" "I", Cond.methodLink RX4 145 yX4_stuckCells, Cond.instanceMethod yX4_stuckCells, Cond.selects RX4 yX4_stuckCells yX4_stuckCells, Cond.code yX4_stuckCells cX4_stuckCells 3 (some .int), Cond.methodLink RX4 55 yX4_stuck, Cond.static yX4_stuck, Cond.code yX4_stuck cX4_stuck 4 (some .int), Cond.methodLink RX4 44 yX4_worn, Cond.static yX4_worn, Cond.code yX4_worn cX4_worn 3 (some .int), Cond.methodLink RX4 48 yX4_ones, Cond.static yX4_ones]
def wsX4_digest_r2 : List Cond := [Cond.code yX4_ones cX4_ones 3 (some .int), Cond.methodLink RX4 73 yX4_free, Cond.static yX4_free, Cond.code yX4_free cX4_free 5 (some .int), Cond.methodLink RX4 59 yX4_wordOf, Cond.static yX4_wordOf, Cond.code yX4_wordOf cX4_wordOf 4 (some .int), Cond.methodLink RX4 62 yX4_bars, Cond.static yX4_bars, Cond.code yX4_bars cX4_bars 3 (some .boolean), Cond.methodLink RX4 51 yX4_taken, Cond.static yX4_taken, Cond.code yX4_taken cX4_taken 10 (some .int), Cond.methodLink RX4 66 yX4_allWear, Cond.static yX4_allWear, Cond.code yX4_allWear cX4_allWear 4 (some .int), Cond.methodLink RX4 149 yX4_overWords, Cond.instanceMethod yX4_overWords, Cond.selects RX4 yX4_overWords yX4_overWords, Cond.code yX4_overWords cX4_overWords 4 (some .int), Cond.methodLink RX4 135 yX4_ofWord, Cond.instanceMethod yX4_ofWord, Cond.selects RX4 yX4_ofWord yX4_ofWord, Cond.code yX4_ofWord cX4_ofWord 3 (some .int)]
def wsX4_digest_r3 : List Cond := [Cond.methodLink RX4 69 yX4_isHot, Cond.static yX4_isHot, Cond.code yX4_isHot cX4_isHot 2 (some .boolean), Cond.methodLink RX4 79 yX4_reads, Cond.static yX4_reads, Cond.code yX4_reads cX4_reads 3 (some .int), Cond.methodLink RX4 76 yX4_goesTo, Cond.static yX4_goesTo, Cond.code yX4_goesTo cX4_goesTo 5 (some .int), Cond.methodLink RX4 159 yX4_dearest, Cond.instanceMethod yX4_dearest, Cond.selects RX4 yX4_dearest yX4_dearest, Cond.code yX4_dearest cX4_dearest 8 (some .int), Cond.methodLink RX4 156 yX4_costs, Cond.static yX4_costs, Cond.code yX4_costs cX4_costs 5 (some .int), Cond.methodLink RX4 142 yX4_ofSlot, Cond.instanceMethod yX4_ofSlot, Cond.selects RX4 yX4_ofSlot yX4_ofSlot, Cond.code yX4_ofSlot cX4_ofSlot 3 (some .int), Cond.methodLink RX4 139 yX4_mostWorn, Cond.instanceMethod yX4_mostWorn, Cond.selects RX4 yX4_mostWorn yX4_mostWorn, Cond.code yX4_mostWorn cX4_mostWorn 4 (some .int)]
def wsX4_digest_r4 : List Cond := [Cond.methodLink RX4 162 yX4_lives, Cond.instanceMethod yX4_lives, Cond.selects RX4 yX4_lives yX4_lives, Cond.code yX4_lives cX4_lives 3 (some .int), Cond.fieldLink RX4 13 "InsideOutWordsModel" "then" "[I", Cond.methodLink RX4 36 yX4_copies, Cond.static yX4_copies, Cond.code yX4_copies cX4_copies 5 none, Cond.methodLink RX4 95 yX4_hammers, Cond.static yX4_hammers, Cond.code yX4_hammers cX4_hammers 5 (some .int), Cond.methodLink RX4 82 yX4_writes, Cond.static yX4_writes, Cond.code yX4_writes cX4_writes 8 (some .int), Cond.methodLink RX4 165 yX4_saved, Cond.instanceMethod yX4_saved, Cond.selects RX4 yX4_saved yX4_saved, Cond.code yX4_saved cX4_saved 1 (some .double), Cond.methodLink RX4 173 yJxe99ae_doubleToLongBits_ccdee, Cond.static yJxe99ae_doubleToLongBits_ccdee, Cond.initialized RJxe99ae, Cond.code yJxe99ae_doubleToLongBits_ccdee cJxe99ae_doubleToLongBits_ccdee 2 (some .long), Cond.methodLink RJxe99ae 134 ⟨"java/lang/Double", "doubleToRawLongBits", "(D)J"⟩, Cond.native ⟨"java/lang/Double", "doubleToRawLongBits", "(D)J"⟩]
def wsX4_digest_r5 : List Cond := [Cond.static ⟨"java/lang/Double", "doubleToRawLongBits", "(D)J"⟩, Cond.initialized "java/lang/Double", Cond.constantLong RJxe99ae 137 (9221120237041090560), Cond.methodLink RJxe99ae 122 yJxe99ae_isNaN_b9ae7, Cond.static yJxe99ae_isNaN_b9ae7, Cond.code yJxe99ae_isNaN_b9ae7 cJxe99ae_isNaN_b9ae7 2 (some .boolean)]
def wsX4_digest : List Cond := .code yX4_digest cX4_digest 5 (some .long) :: ((wsX4_digest_r1 ++ (wsX4_digest_r2 ++ (wsX4_digest_r3 ++ (wsX4_digest_r4 ++ wsX4_digest_r5)))) ++ wsX40)
def wsJ9_max_7cf53 : List Cond := .code yJ9_max_7cf53 cJ9_max_7cf53 2 (some .int) :: ([])
def wsL_write_r1 : List Cond := [Cond.classLink RL 13 "java/lang/IndexOutOfBoundsException", Cond.classLink RL 15 "java/lang/IllegalArgumentException", Cond.classLink RL 17 "java/lang/IllegalStateException", Cond.methodLink RL 7 yX3_write, Cond.instanceMethod yX3_write, Cond.selects RX3 yX3_write yX3_write, Cond.initialized RX3, Cond.code yX3_write cX3_write 4 (some .int), Cond.classLink RX3 44 "java/lang/IllegalStateException", Cond.initialized "java/lang/IllegalStateException", Cond.fieldLink RX3 10 "InsideOutWords" "now" "LInsideOutWords$State;", Cond.fieldLink RX3 22 "InsideOutWords" "history" "LInsideOutWords$History;", Cond.methodLink RX3 33 yX3_needWord, Cond.static yX3_needWord, Cond.code yX3_needWord cX3_needWord 1 none, Cond.classLink RX3 274 "java/lang/IndexOutOfBoundsException", Cond.initialized "java/lang/IndexOutOfBoundsException", Cond.methodLink RX3 59 yX3_isOutside, Cond.static yX3_isOutside, Cond.code yX3_isOutside cX3_isOutside 3 (some .boolean), Cond.methodLink RX3 37 yX3_needNumber, Cond.static yX3_needNumber, Cond.code yX3_needNumber cX3_needNumber 1 none, Cond.classLink RX3 63 "java/lang/IllegalArgumentException"]
def wsL_write_r2 : List Cond := [Cond.initialized "java/lang/IllegalArgumentException", Cond.methodLink RX3 40 yX1_targetOf, Cond.instanceMethod yX1_targetOf, Cond.selects RX1 yX1_targetOf yX1_targetOf, Cond.initialized RX1, Cond.code yX1_targetOf cX1_targetOf 6 (some .int), Cond.fieldLink RX1 21 "InsideOutWords$State" "slotOf" "[I", Cond.methodLink RX1 89 yX1_wayIn, Cond.instanceMethod yX1_wayIn, Cond.selects RX1 yX1_wayIn yX1_wayIn, Cond.code yX1_wayIn cX1_wayIn 10 (some .int), Cond.fieldLink RX1 9 "InsideOutWords$State" "held" "[I", Cond.methodLink RX1 64 yX1_stuckIn, Cond.instanceMethod yX1_stuckIn, Cond.selects RX1 yX1_stuckIn yX1_stuckIn, Cond.code yX1_stuckIn cX1_stuckIn 5 (some .int), Cond.fieldLink RX1 15 "InsideOutWords$State" "worn" "[I", Cond.fieldLink RX1 33 "InsideOutWords$State" "settings" "[I", Cond.methodLink RX1 68 yJ6_bitCount_0f7a4, Cond.static yJ6_bitCount_0f7a4, Cond.initialized RJ6, Cond.code yJ6_bitCount_0f7a4 cJ6_bitCount_0f7a4 1 (some .int), Cond.constant RJ6 265 (1431655765), Cond.constant RJ6 266 (858993459)]
def wsL_write_r3 : List Cond := [Cond.constant RJ6 267 (252645135), Cond.methodLink RX1 79 yX1_isHot, Cond.instanceMethod yX1_isHot, Cond.selects RX1 yX1_isHot yX1_isHot, Cond.code yX1_isHot cX1_isHot 2 (some .boolean), Cond.fieldLink RX1 24 "InsideOutWords$State" "writesHere" "[I", Cond.methodLink RX1 92 yX1_leastWornFreeFor, Cond.instanceMethod yX1_leastWornFreeFor, Cond.selects RX1 yX1_leastWornFreeFor yX1_leastWornFreeFor, Cond.code yX1_leastWornFreeFor cX1_leastWornFreeFor 4 (some .int), Cond.fieldLink RX1 18 "InsideOutWords$State" "wordIn" "[I", Cond.methodLink RX1 86 yX1_lessWorn, Cond.instanceMethod yX1_lessWorn, Cond.selects RX1 yX1_lessWorn yX1_lessWorn, Cond.code yX1_lessWorn cX1_lessWorn 3 (some .int), Cond.methodLink RX1 83 yX1_wornTogether, Cond.instanceMethod yX1_wornTogether, Cond.selects RX1 yX1_wornTogether yX1_wornTogether, Cond.code yX1_wornTogether cX1_wornTogether 5 (some .int), Cond.methodLink RX3 51 yX0_keep, Cond.instanceMethod yX0_keep, Cond.selects RX0 yX0_keep yX0_keep, Cond.initialized RX0, Cond.code yX0_keep cX0_keep 2 none]
def wsL_write_r4 : List Cond := [Cond.fieldLink RX0 18 "InsideOutWords$History" "size" "I", Cond.fieldLink RX0 22 "InsideOutWords$History" "oldest" "I", Cond.fieldLink RX0 11 "InsideOutWords$History" "rows" "[LInsideOutWords$State;", Cond.methodLink RX0 25 yX0_latest, Cond.instanceMethod yX0_latest, Cond.selects RX0 yX0_latest yX0_latest, Cond.code yX0_latest cX0_latest 1 (some .int), Cond.methodLink RX0 29 yX1_copyFrom, Cond.instanceMethod yX1_copyFrom, Cond.selects RX1 yX1_copyFrom yX1_copyFrom, Cond.code yX1_copyFrom cX1_copyFrom 2 none, Cond.methodLink RX1 36 arraycopyName, Cond.native arraycopyName, Cond.static arraycopyName, Cond.initialized "java/lang/System", Cond.fieldLink RX1 27 "InsideOutWords$State" "writesOf" "[I", Cond.fieldLink RX1 30 "InsideOutWords$State" "movesOf" "[I", Cond.fieldLink RX1 42 "InsideOutWords$State" "writes" "I", Cond.fieldLink RX1 46 "InsideOutWords$State" "changes" "I", Cond.fieldLink RX1 49 "InsideOutWords$State" "plainChanges" "I", Cond.fieldLink RX1 52 "InsideOutWords$State" "moves" "I", Cond.fieldLink RX1 55 "InsideOutWords$State" "turnedWrites" "I", Cond.methodLink RX3 55 yX1_place, Cond.instanceMethod yX1_place]
def wsL_write_r5 : List Cond := [Cond.selects RX1 yX1_place yX1_place, Cond.code yX1_place cX1_place 7 (some .int), Cond.methodLink RX1 76 yX1_numberOf, Cond.instanceMethod yX1_numberOf, Cond.selects RX1 yX1_numberOf yX1_numberOf, Cond.code yX1_numberOf cX1_numberOf 2 (some .int), Cond.methodLink RX1 73 yX1_numberIn, Cond.instanceMethod yX1_numberIn, Cond.selects RX1 yX1_numberIn yX1_numberIn, Cond.code yX1_numberIn cX1_numberIn 3 (some .int), Cond.methodLink RX1 95 yX1_wearCells, Cond.instanceMethod yX1_wearCells, Cond.selects RX1 yX1_wearCells yX1_wearCells, Cond.code yX1_wearCells cX1_wearCells 5 none, Cond.methodLink RX1 99 yX1_settle, Cond.instanceMethod yX1_settle, Cond.selects RX1 yX1_settle yX1_settle, Cond.code yX1_settle cX1_settle 4 none]
def wsL_write : List Cond := .codeWith yL_write cL_write 5 (some .int) [(0, 10, 13, 13), (0, 10, 17, 15), (0, 10, 21, 17)] :: ((wsL_write_r1 ++ (wsL_write_r2 ++ (wsL_write_r3 ++ (wsL_write_r4 ++ wsL_write_r5)))) ++ wsX30 ++ wsX10 ++ wsX00 ++ (vx_atS RX3 48 "java/lang/IllegalStateException" ["java/lang/RuntimeException", "java/lang/Exception"]).filter goodWord ++ (vx_atS RX3 278 "java/lang/IndexOutOfBoundsException" ["java/lang/RuntimeException", "java/lang/Exception"]).filter goodWord ++ (vx_atS RX3 67 "java/lang/IllegalArgumentException" ["java/lang/RuntimeException", "java/lang/Exception"]).filter goodWord)
def wsL_hammer_r1 : List Cond := [Cond.classLink RL 13 "java/lang/IndexOutOfBoundsException", Cond.classLink RL 15 "java/lang/IllegalArgumentException", Cond.methodLink RL 19 yX3_hammer, Cond.instanceMethod yX3_hammer, Cond.selects RX3 yX3_hammer yX3_hammer, Cond.initialized RX3, Cond.code yX3_hammer cX3_hammer 4 (some .int), Cond.classLink RX3 63 "java/lang/IllegalArgumentException", Cond.initialized "java/lang/IllegalArgumentException", Cond.fieldLink RX3 22 "InsideOutWords" "history" "LInsideOutWords$History;", Cond.fieldLink RX3 10 "InsideOutWords" "now" "LInsideOutWords$State;", Cond.methodLink RX3 33 yX3_needWord, Cond.static yX3_needWord, Cond.code yX3_needWord cX3_needWord 1 none, Cond.classLink RX3 274 "java/lang/IndexOutOfBoundsException", Cond.initialized "java/lang/IndexOutOfBoundsException", Cond.methodLink RX3 59 yX3_isOutside, Cond.static yX3_isOutside, Cond.code yX3_isOutside cX3_isOutside 3 (some .boolean), Cond.methodLink RX3 37 yX3_needNumber, Cond.static yX3_needNumber, Cond.code yX3_needNumber cX3_needNumber 1 none, Cond.methodLink RX3 51 yX0_keep, Cond.instanceMethod yX0_keep]
def wsL_hammer_r2 : List Cond := [Cond.selects RX0 yX0_keep yX0_keep, Cond.initialized RX0, Cond.code yX0_keep cX0_keep 2 none, Cond.fieldLink RX0 18 "InsideOutWords$History" "size" "I", Cond.fieldLink RX0 22 "InsideOutWords$History" "oldest" "I", Cond.fieldLink RX0 11 "InsideOutWords$History" "rows" "[LInsideOutWords$State;", Cond.methodLink RX0 25 yX0_latest, Cond.instanceMethod yX0_latest, Cond.selects RX0 yX0_latest yX0_latest, Cond.code yX0_latest cX0_latest 1 (some .int), Cond.methodLink RX0 29 yX1_copyFrom, Cond.instanceMethod yX1_copyFrom, Cond.selects RX1 yX1_copyFrom yX1_copyFrom, Cond.initialized RX1, Cond.code yX1_copyFrom cX1_copyFrom 2 none, Cond.fieldLink RX1 9 "InsideOutWords$State" "held" "[I", Cond.methodLink RX1 36 arraycopyName, Cond.native arraycopyName, Cond.static arraycopyName, Cond.initialized "java/lang/System", Cond.fieldLink RX1 15 "InsideOutWords$State" "worn" "[I", Cond.fieldLink RX1 18 "InsideOutWords$State" "wordIn" "[I", Cond.fieldLink RX1 21 "InsideOutWords$State" "slotOf" "[I", Cond.fieldLink RX1 24 "InsideOutWords$State" "writesHere" "[I"]
def wsL_hammer_r3 : List Cond := [Cond.fieldLink RX1 27 "InsideOutWords$State" "writesOf" "[I", Cond.fieldLink RX1 30 "InsideOutWords$State" "movesOf" "[I", Cond.fieldLink RX1 33 "InsideOutWords$State" "settings" "[I", Cond.fieldLink RX1 42 "InsideOutWords$State" "writes" "I", Cond.fieldLink RX1 46 "InsideOutWords$State" "changes" "I", Cond.fieldLink RX1 49 "InsideOutWords$State" "plainChanges" "I", Cond.fieldLink RX1 52 "InsideOutWords$State" "moves" "I", Cond.fieldLink RX1 55 "InsideOutWords$State" "turnedWrites" "I", Cond.methodLink RX3 68 yX1_placeInTurns, Cond.instanceMethod yX1_placeInTurns, Cond.selects RX1 yX1_placeInTurns yX1_placeInTurns, Cond.code yX1_placeInTurns cX1_placeInTurns 7 (some .int), Cond.methodLink RX1 102 yX1_targetOf, Cond.instanceMethod yX1_targetOf, Cond.selects RX1 yX1_targetOf yX1_targetOf, Cond.code yX1_targetOf cX1_targetOf 6 (some .int), Cond.methodLink RX1 89 yX1_wayIn, Cond.instanceMethod yX1_wayIn, Cond.selects RX1 yX1_wayIn yX1_wayIn, Cond.code yX1_wayIn cX1_wayIn 10 (some .int), Cond.methodLink RX1 64 yX1_stuckIn, Cond.instanceMethod yX1_stuckIn, Cond.selects RX1 yX1_stuckIn yX1_stuckIn, Cond.code yX1_stuckIn cX1_stuckIn 5 (some .int)]
def wsL_hammer_r4 : List Cond := [Cond.methodLink RX1 68 yJ6_bitCount_0f7a4, Cond.static yJ6_bitCount_0f7a4, Cond.initialized RJ6, Cond.code yJ6_bitCount_0f7a4 cJ6_bitCount_0f7a4 1 (some .int), Cond.constant RJ6 265 (1431655765), Cond.constant RJ6 266 (858993459), Cond.constant RJ6 267 (252645135), Cond.methodLink RX1 79 yX1_isHot, Cond.instanceMethod yX1_isHot, Cond.selects RX1 yX1_isHot yX1_isHot, Cond.code yX1_isHot cX1_isHot 2 (some .boolean), Cond.methodLink RX1 92 yX1_leastWornFreeFor, Cond.instanceMethod yX1_leastWornFreeFor, Cond.selects RX1 yX1_leastWornFreeFor yX1_leastWornFreeFor, Cond.code yX1_leastWornFreeFor cX1_leastWornFreeFor 4 (some .int), Cond.methodLink RX1 86 yX1_lessWorn, Cond.instanceMethod yX1_lessWorn, Cond.selects RX1 yX1_lessWorn yX1_lessWorn, Cond.code yX1_lessWorn cX1_lessWorn 3 (some .int), Cond.methodLink RX1 83 yX1_wornTogether, Cond.instanceMethod yX1_wornTogether, Cond.selects RX1 yX1_wornTogether yX1_wornTogether, Cond.code yX1_wornTogether cX1_wornTogether 5 (some .int), Cond.methodLink RX1 105 yX1_place]
def wsL_hammer_r5 : List Cond := [Cond.instanceMethod yX1_place, Cond.selects RX1 yX1_place yX1_place, Cond.code yX1_place cX1_place 7 (some .int), Cond.methodLink RX1 76 yX1_numberOf, Cond.instanceMethod yX1_numberOf, Cond.selects RX1 yX1_numberOf yX1_numberOf, Cond.code yX1_numberOf cX1_numberOf 2 (some .int), Cond.methodLink RX1 73 yX1_numberIn, Cond.instanceMethod yX1_numberIn, Cond.selects RX1 yX1_numberIn yX1_numberIn, Cond.code yX1_numberIn cX1_numberIn 3 (some .int), Cond.methodLink RX1 95 yX1_wearCells, Cond.instanceMethod yX1_wearCells, Cond.selects RX1 yX1_wearCells yX1_wearCells, Cond.code yX1_wearCells cX1_wearCells 5 none, Cond.methodLink RX1 99 yX1_settle, Cond.instanceMethod yX1_settle, Cond.selects RX1 yX1_settle yX1_settle, Cond.code yX1_settle cX1_settle 4 none]
def wsL_hammer : List Cond := .codeWith yL_hammer cL_hammer 6 (some .int) [(0, 12, 15, 13), (0, 12, 19, 15)] :: ((wsL_hammer_r1 ++ (wsL_hammer_r2 ++ (wsL_hammer_r3 ++ (wsL_hammer_r4 ++ wsL_hammer_r5)))) ++ wsX30 ++ wsX00 ++ wsX10 ++ (vx_atS RX3 67 "java/lang/IllegalArgumentException" ["java/lang/RuntimeException", "java/lang/Exception"]).filter goodWord ++ (vx_atS RX3 278 "java/lang/IndexOutOfBoundsException" ["java/lang/RuntimeException", "java/lang/Exception"]).filter goodWord)
def wsL_exchange_r1 : List Cond := [Cond.classLink RL 13 "java/lang/IndexOutOfBoundsException", Cond.methodLink RL 23 yX3_exchange, Cond.instanceMethod yX3_exchange, Cond.selects RX3 yX3_exchange yX3_exchange, Cond.initialized RX3, Cond.code yX3_exchange cX3_exchange 3 (some .int), Cond.fieldLink RX3 22 "InsideOutWords" "history" "LInsideOutWords$History;", Cond.fieldLink RX3 10 "InsideOutWords" "now" "LInsideOutWords$State;", Cond.fieldLink RX3 75 "InsideOutWords$State" "slotOf" "[I", Cond.methodLink RX3 33 yX3_needWord, Cond.static yX3_needWord, Cond.code yX3_needWord cX3_needWord 1 none, Cond.classLink RX3 274 "java/lang/IndexOutOfBoundsException", Cond.initialized "java/lang/IndexOutOfBoundsException", Cond.methodLink RX3 59 yX3_isOutside, Cond.static yX3_isOutside, Cond.code yX3_isOutside cX3_isOutside 3 (some .boolean), Cond.methodLink RX3 51 yX0_keep, Cond.instanceMethod yX0_keep, Cond.selects RX0 yX0_keep yX0_keep, Cond.initialized RX0, Cond.code yX0_keep cX0_keep 2 none, Cond.fieldLink RX0 18 "InsideOutWords$History" "size" "I", Cond.fieldLink RX0 22 "InsideOutWords$History" "oldest" "I"]
def wsL_exchange_r2 : List Cond := [Cond.fieldLink RX0 11 "InsideOutWords$History" "rows" "[LInsideOutWords$State;", Cond.methodLink RX0 25 yX0_latest, Cond.instanceMethod yX0_latest, Cond.selects RX0 yX0_latest yX0_latest, Cond.code yX0_latest cX0_latest 1 (some .int), Cond.methodLink RX0 29 yX1_copyFrom, Cond.instanceMethod yX1_copyFrom, Cond.selects RX1 yX1_copyFrom yX1_copyFrom, Cond.initialized RX1, Cond.code yX1_copyFrom cX1_copyFrom 2 none, Cond.fieldLink RX1 9 "InsideOutWords$State" "held" "[I", Cond.methodLink RX1 36 arraycopyName, Cond.native arraycopyName, Cond.static arraycopyName, Cond.initialized "java/lang/System", Cond.fieldLink RX1 15 "InsideOutWords$State" "worn" "[I", Cond.fieldLink RX1 18 "InsideOutWords$State" "wordIn" "[I", Cond.fieldLink RX1 21 "InsideOutWords$State" "slotOf" "[I", Cond.fieldLink RX1 24 "InsideOutWords$State" "writesHere" "[I", Cond.fieldLink RX1 27 "InsideOutWords$State" "writesOf" "[I", Cond.fieldLink RX1 30 "InsideOutWords$State" "movesOf" "[I", Cond.fieldLink RX1 33 "InsideOutWords$State" "settings" "[I", Cond.fieldLink RX1 42 "InsideOutWords$State" "writes" "I", Cond.fieldLink RX1 46 "InsideOutWords$State" "changes" "I"]
def wsL_exchange_r3 : List Cond := [Cond.fieldLink RX1 49 "InsideOutWords$State" "plainChanges" "I", Cond.fieldLink RX1 52 "InsideOutWords$State" "moves" "I", Cond.fieldLink RX1 55 "InsideOutWords$State" "turnedWrites" "I", Cond.methodLink RX3 71 yX1_swapSlots, Cond.instanceMethod yX1_swapSlots, Cond.selects RX1 yX1_swapSlots yX1_swapSlots, Cond.code yX1_swapSlots cX1_swapSlots 4 none]
def wsL_exchange : List Cond := .codeWith yL_exchange cL_exchange 5 (some .int) [(0, 10, 13, 13)] :: ((wsL_exchange_r1 ++ (wsL_exchange_r2 ++ wsL_exchange_r3)) ++ wsX30 ++ wsX10 ++ wsX00 ++ (vx_atS RX3 278 "java/lang/IndexOutOfBoundsException" ["java/lang/RuntimeException", "java/lang/Exception"]).filter goodWord)
def wsL_wear_r1 : List Cond := [Cond.classLink RL 13 "java/lang/IndexOutOfBoundsException", Cond.classLink RL 15 "java/lang/IllegalArgumentException", Cond.classLink RL 17 "java/lang/IllegalStateException", Cond.methodLink RL 26 yX3_wear, Cond.instanceMethod yX3_wear, Cond.selects RX3 yX3_wear yX3_wear, Cond.initialized RX3, Cond.code yX3_wear cX3_wear 5 (some .int), Cond.classLink RX3 63 "java/lang/IllegalArgumentException", Cond.initialized "java/lang/IllegalArgumentException", Cond.classLink RX3 44 "java/lang/IllegalStateException", Cond.initialized "java/lang/IllegalStateException", Cond.fieldLink RX3 10 "InsideOutWords" "now" "LInsideOutWords$State;", Cond.constant RX3 90 (99999), Cond.fieldLink RX3 22 "InsideOutWords" "history" "LInsideOutWords$History;", Cond.fieldLink RX3 93 "InsideOutWords$State" "worn" "[I", Cond.methodLink RX3 79 yX3_needSlot, Cond.static yX3_needSlot, Cond.code yX3_needSlot cX3_needSlot 1 none, Cond.classLink RX3 274 "java/lang/IndexOutOfBoundsException", Cond.initialized "java/lang/IndexOutOfBoundsException", Cond.methodLink RX3 59 yX3_isOutside, Cond.static yX3_isOutside, Cond.code yX3_isOutside cX3_isOutside 3 (some .boolean)]
def wsL_wear_r2 : List Cond := [Cond.methodLink RX3 82 yX3_needCell, Cond.static yX3_needCell, Cond.code yX3_needCell cX3_needCell 1 none, Cond.methodLink RX3 87 yX1_wornAt, Cond.instanceMethod yX1_wornAt, Cond.selects RX1 yX1_wornAt yX1_wornAt, Cond.initialized RX1, Cond.code yX1_wornAt cX1_wornAt 3 (some .int), Cond.fieldLink RX1 15 "InsideOutWords$State" "worn" "[I", Cond.methodLink RX3 51 yX0_keep, Cond.instanceMethod yX0_keep, Cond.selects RX0 yX0_keep yX0_keep, Cond.initialized RX0, Cond.code yX0_keep cX0_keep 2 none, Cond.fieldLink RX0 18 "InsideOutWords$History" "size" "I", Cond.fieldLink RX0 22 "InsideOutWords$History" "oldest" "I", Cond.fieldLink RX0 11 "InsideOutWords$History" "rows" "[LInsideOutWords$State;", Cond.methodLink RX0 25 yX0_latest, Cond.instanceMethod yX0_latest, Cond.selects RX0 yX0_latest yX0_latest, Cond.code yX0_latest cX0_latest 1 (some .int), Cond.methodLink RX0 29 yX1_copyFrom, Cond.instanceMethod yX1_copyFrom, Cond.selects RX1 yX1_copyFrom yX1_copyFrom]
def wsL_wear_r3 : List Cond := [Cond.code yX1_copyFrom cX1_copyFrom 2 none, Cond.fieldLink RX1 9 "InsideOutWords$State" "held" "[I", Cond.methodLink RX1 36 arraycopyName, Cond.native arraycopyName, Cond.static arraycopyName, Cond.initialized "java/lang/System", Cond.fieldLink RX1 18 "InsideOutWords$State" "wordIn" "[I", Cond.fieldLink RX1 21 "InsideOutWords$State" "slotOf" "[I", Cond.fieldLink RX1 24 "InsideOutWords$State" "writesHere" "[I", Cond.fieldLink RX1 27 "InsideOutWords$State" "writesOf" "[I", Cond.fieldLink RX1 30 "InsideOutWords$State" "movesOf" "[I", Cond.fieldLink RX1 33 "InsideOutWords$State" "settings" "[I", Cond.fieldLink RX1 42 "InsideOutWords$State" "writes" "I", Cond.fieldLink RX1 46 "InsideOutWords$State" "changes" "I", Cond.fieldLink RX1 49 "InsideOutWords$State" "plainChanges" "I", Cond.fieldLink RX1 52 "InsideOutWords$State" "moves" "I", Cond.fieldLink RX1 55 "InsideOutWords$State" "turnedWrites" "I"]
def wsL_wear : List Cond := .codeWith yL_wear cL_wear 6 (some .int) [(0, 12, 15, 13), (0, 12, 19, 15), (0, 12, 23, 17)] :: ((wsL_wear_r1 ++ (wsL_wear_r2 ++ wsL_wear_r3)) ++ wsX30 ++ wsX10 ++ wsX00 ++ (vx_atS RX3 67 "java/lang/IllegalArgumentException" ["java/lang/RuntimeException", "java/lang/Exception"]).filter goodWord ++ (vx_atS RX3 48 "java/lang/IllegalStateException" ["java/lang/RuntimeException", "java/lang/Exception"]).filter goodWord ++ (vx_atS RX3 278 "java/lang/IndexOutOfBoundsException" ["java/lang/RuntimeException", "java/lang/Exception"]).filter goodWord)
def wsL_set_r1 : List Cond := [Cond.classLink RL 13 "java/lang/IndexOutOfBoundsException", Cond.classLink RL 15 "java/lang/IllegalArgumentException", Cond.methodLink RL 29 yX3_set, Cond.instanceMethod yX3_set, Cond.selects RX3 yX3_set yX3_set, Cond.initialized RX3, Cond.code yX3_set cX3_set 5 (some .int), Cond.classLink RX3 63 "java/lang/IllegalArgumentException", Cond.initialized "java/lang/IllegalArgumentException", Cond.fieldLink RX3 22 "InsideOutWords" "history" "LInsideOutWords$History;", Cond.fieldLink RX3 10 "InsideOutWords" "now" "LInsideOutWords$State;", Cond.fieldLink RX3 101 "InsideOutWords$State" "settings" "[I", Cond.methodLink RX3 96 yX3_needSetting, Cond.static yX3_needSetting, Cond.code yX3_needSetting cX3_needSetting 1 none, Cond.classLink RX3 274 "java/lang/IndexOutOfBoundsException", Cond.initialized "java/lang/IndexOutOfBoundsException", Cond.methodLink RX3 59 yX3_isOutside, Cond.static yX3_isOutside, Cond.code yX3_isOutside cX3_isOutside 3 (some .boolean), Cond.methodLink RX3 51 yX0_keep, Cond.instanceMethod yX0_keep, Cond.selects RX0 yX0_keep yX0_keep, Cond.initialized RX0]
def wsL_set_r2 : List Cond := [Cond.code yX0_keep cX0_keep 2 none, Cond.fieldLink RX0 18 "InsideOutWords$History" "size" "I", Cond.fieldLink RX0 22 "InsideOutWords$History" "oldest" "I", Cond.fieldLink RX0 11 "InsideOutWords$History" "rows" "[LInsideOutWords$State;", Cond.methodLink RX0 25 yX0_latest, Cond.instanceMethod yX0_latest, Cond.selects RX0 yX0_latest yX0_latest, Cond.code yX0_latest cX0_latest 1 (some .int), Cond.methodLink RX0 29 yX1_copyFrom, Cond.instanceMethod yX1_copyFrom, Cond.selects RX1 yX1_copyFrom yX1_copyFrom, Cond.initialized RX1, Cond.code yX1_copyFrom cX1_copyFrom 2 none, Cond.fieldLink RX1 9 "InsideOutWords$State" "held" "[I", Cond.methodLink RX1 36 arraycopyName, Cond.native arraycopyName, Cond.static arraycopyName, Cond.initialized "java/lang/System", Cond.fieldLink RX1 15 "InsideOutWords$State" "worn" "[I", Cond.fieldLink RX1 18 "InsideOutWords$State" "wordIn" "[I", Cond.fieldLink RX1 21 "InsideOutWords$State" "slotOf" "[I", Cond.fieldLink RX1 24 "InsideOutWords$State" "writesHere" "[I", Cond.fieldLink RX1 27 "InsideOutWords$State" "writesOf" "[I", Cond.fieldLink RX1 30 "InsideOutWords$State" "movesOf" "[I"]
def wsL_set_r3 : List Cond := [Cond.fieldLink RX1 33 "InsideOutWords$State" "settings" "[I", Cond.fieldLink RX1 42 "InsideOutWords$State" "writes" "I", Cond.fieldLink RX1 46 "InsideOutWords$State" "changes" "I", Cond.fieldLink RX1 49 "InsideOutWords$State" "plainChanges" "I", Cond.fieldLink RX1 52 "InsideOutWords$State" "moves" "I", Cond.fieldLink RX1 55 "InsideOutWords$State" "turnedWrites" "I"]
def wsL_set : List Cond := .codeWith yL_set cL_set 5 (some .int) [(0, 10, 13, 13), (0, 10, 17, 15)] :: ((wsL_set_r1 ++ (wsL_set_r2 ++ wsL_set_r3)) ++ wsX30 ++ wsX10 ++ wsX00 ++ (vx_atS RX3 67 "java/lang/IllegalArgumentException" ["java/lang/RuntimeException", "java/lang/Exception"]).filter goodWord ++ (vx_atS RX3 278 "java/lang/IndexOutOfBoundsException" ["java/lang/RuntimeException", "java/lang/Exception"]).filter goodWord)
def wsL_append : List Cond := .codeWith yL_append cL_append 4 (some .int) [(0, 9, 12, 15), (0, 9, 15, 17)] :: ([.classLink RL 15 "java/lang/IllegalArgumentException", .classLink RL 17 "java/lang/IllegalStateException", .methodLink RL 32 yX3_append, .instanceMethod yX3_append, .selects RX3 yX3_append yX3_append, .initialized RX3, .code yX3_append cX3_append 2 (some .int), .classLink RX3 63 "java/lang/IllegalArgumentException", .initialized "java/lang/IllegalArgumentException", .classLink RX3 44 "java/lang/IllegalStateException", .initialized "java/lang/IllegalStateException", .fieldLink RX3 29 "InsideOutWords" "text" "LInsideOutWords$Text;", .fieldLink RX3 106 "InsideOutWords$Text" "length" "I", .methodLink RX3 59 yX3_isOutside, .static yX3_isOutside, .code yX3_isOutside cX3_isOutside 3 (some .boolean), .methodLink RX3 112 yX2_add, .instanceMethod yX2_add, .selects RX2 yX2_add yX2_add, .initialized RX2, .code yX2_add cX2_add 2 none, .fieldLink RX2 9 "InsideOutWords$Text" "codes" "[I", .fieldLink RX2 21 "InsideOutWords$Text" "length" "I"] ++ wsX30 ++ wsX20 ++ (vx_atS RX3 67 "java/lang/IllegalArgumentException" ["java/lang/RuntimeException", "java/lang/Exception"]).filter goodWord ++ (vx_atS RX3 48 "java/lang/IllegalStateException" ["java/lang/RuntimeException", "java/lang/Exception"]).filter goodWord)
def wsL_writeAll_r1 : List Cond := [Cond.classLink RL 15 "java/lang/IllegalArgumentException", Cond.methodLink RL 36 yX3_writeAll, Cond.instanceMethod yX3_writeAll, Cond.selects RX3 yX3_writeAll yX3_writeAll, Cond.initialized RX3, Cond.code yX3_writeAll cX3_writeAll 1 (some .int), Cond.classLink RX3 63 "java/lang/IllegalArgumentException", Cond.initialized "java/lang/IllegalArgumentException", Cond.fieldLink RX3 29 "InsideOutWords" "text" "LInsideOutWords$Text;", Cond.fieldLink RX3 22 "InsideOutWords" "history" "LInsideOutWords$History;", Cond.fieldLink RX3 10 "InsideOutWords" "now" "LInsideOutWords$State;", Cond.fieldLink RX3 106 "InsideOutWords$Text" "length" "I", Cond.methodLink RX3 119 yX2_isComplete, Cond.instanceMethod yX2_isComplete, Cond.selects RX2 yX2_isComplete yX2_isComplete, Cond.initialized RX2, Cond.code yX2_isComplete cX2_isComplete 1 (some .boolean), Cond.fieldLink RX2 21 "InsideOutWords$Text" "length" "I", Cond.fieldLink RX2 25 "InsideOutWords$Text" "stage" "I", Cond.methodLink RX2 35 yX2_parse, Cond.instanceMethod yX2_parse, Cond.selects RX2 yX2_parse yX2_parse, Cond.code yX2_parse cX2_parse 2 (some .int), Cond.fieldLink RX2 28 "InsideOutWords$Text" "parsed" "I"]
def wsL_writeAll_r2 : List Cond := [Cond.fieldLink RX2 9 "InsideOutWords$Text" "codes" "[I", Cond.methodLink RX2 31 yX2_takes, Cond.instanceMethod yX2_takes, Cond.selects RX2 yX2_takes yX2_takes, Cond.code yX2_takes cX2_takes 2 (some .boolean), Cond.fieldLink RX2 39 "InsideOutWords$Text" "word" "I", Cond.static yX3_isOutside, Cond.code yX3_isOutside cX3_isOutside 3 (some .boolean), Cond.methodLink RX2 46 yX2_takesFirstDigit, Cond.instanceMethod yX2_takesFirstDigit, Cond.selects RX2 yX2_takesFirstDigit yX2_takesFirstDigit, Cond.code yX2_takesFirstDigit cX2_takesFirstDigit 2 (some .boolean), Cond.fieldLink RX2 15 "InsideOutWords$Text" "parsedWord" "[I", Cond.fieldLink RX2 18 "InsideOutWords$Text" "parsedNumber" "[I", Cond.methodLink RX2 49 yX2_takesInNumber, Cond.instanceMethod yX2_takesInNumber, Cond.selects RX2 yX2_takesInNumber yX2_takesInNumber, Cond.code yX2_takesInNumber cX2_takesInNumber 6 (some .boolean), Cond.methodLink RX3 51 yX0_keep, Cond.instanceMethod yX0_keep, Cond.selects RX0 yX0_keep yX0_keep, Cond.initialized RX0, Cond.code yX0_keep cX0_keep 2 none, Cond.fieldLink RX0 18 "InsideOutWords$History" "size" "I"]
def wsL_writeAll_r3 : List Cond := [Cond.fieldLink RX0 22 "InsideOutWords$History" "oldest" "I", Cond.fieldLink RX0 11 "InsideOutWords$History" "rows" "[LInsideOutWords$State;", Cond.methodLink RX0 25 yX0_latest, Cond.instanceMethod yX0_latest, Cond.selects RX0 yX0_latest yX0_latest, Cond.code yX0_latest cX0_latest 1 (some .int), Cond.methodLink RX0 29 yX1_copyFrom, Cond.instanceMethod yX1_copyFrom, Cond.selects RX1 yX1_copyFrom yX1_copyFrom, Cond.initialized RX1, Cond.code yX1_copyFrom cX1_copyFrom 2 none, Cond.fieldLink RX1 9 "InsideOutWords$State" "held" "[I", Cond.methodLink RX1 36 arraycopyName, Cond.native arraycopyName, Cond.static arraycopyName, Cond.initialized "java/lang/System", Cond.fieldLink RX1 15 "InsideOutWords$State" "worn" "[I", Cond.fieldLink RX1 18 "InsideOutWords$State" "wordIn" "[I", Cond.fieldLink RX1 21 "InsideOutWords$State" "slotOf" "[I", Cond.fieldLink RX1 24 "InsideOutWords$State" "writesHere" "[I", Cond.fieldLink RX1 27 "InsideOutWords$State" "writesOf" "[I", Cond.fieldLink RX1 30 "InsideOutWords$State" "movesOf" "[I", Cond.fieldLink RX1 33 "InsideOutWords$State" "settings" "[I", Cond.fieldLink RX1 42 "InsideOutWords$State" "writes" "I"]
def wsL_writeAll_r4 : List Cond := [Cond.fieldLink RX1 46 "InsideOutWords$State" "changes" "I", Cond.fieldLink RX1 49 "InsideOutWords$State" "plainChanges" "I", Cond.fieldLink RX1 52 "InsideOutWords$State" "moves" "I", Cond.fieldLink RX1 55 "InsideOutWords$State" "turnedWrites" "I", Cond.methodLink RX3 125 yX3_placeParsed, Cond.instanceMethod yX3_placeParsed, Cond.selects RX3 yX3_placeParsed yX3_placeParsed, Cond.code yX3_placeParsed cX3_placeParsed 5 (some .int), Cond.fieldLink RX3 265 "InsideOutWords$Text" "parsed" "I", Cond.fieldLink RX3 268 "InsideOutWords$Text" "parsedWord" "[I", Cond.fieldLink RX3 271 "InsideOutWords$Text" "parsedNumber" "[I", Cond.methodLink RX3 40 yX1_targetOf, Cond.instanceMethod yX1_targetOf, Cond.selects RX1 yX1_targetOf yX1_targetOf, Cond.code yX1_targetOf cX1_targetOf 6 (some .int), Cond.methodLink RX1 89 yX1_wayIn, Cond.instanceMethod yX1_wayIn, Cond.selects RX1 yX1_wayIn yX1_wayIn, Cond.code yX1_wayIn cX1_wayIn 10 (some .int), Cond.methodLink RX1 64 yX1_stuckIn, Cond.instanceMethod yX1_stuckIn, Cond.selects RX1 yX1_stuckIn yX1_stuckIn, Cond.code yX1_stuckIn cX1_stuckIn 5 (some .int), Cond.methodLink RX1 68 yJ6_bitCount_0f7a4]
def wsL_writeAll_r5 : List Cond := [Cond.static yJ6_bitCount_0f7a4, Cond.initialized RJ6, Cond.code yJ6_bitCount_0f7a4 cJ6_bitCount_0f7a4 1 (some .int), Cond.constant RJ6 265 (1431655765), Cond.constant RJ6 266 (858993459), Cond.constant RJ6 267 (252645135), Cond.methodLink RX1 79 yX1_isHot, Cond.instanceMethod yX1_isHot, Cond.selects RX1 yX1_isHot yX1_isHot, Cond.code yX1_isHot cX1_isHot 2 (some .boolean), Cond.methodLink RX1 92 yX1_leastWornFreeFor, Cond.instanceMethod yX1_leastWornFreeFor, Cond.selects RX1 yX1_leastWornFreeFor yX1_leastWornFreeFor, Cond.code yX1_leastWornFreeFor cX1_leastWornFreeFor 4 (some .int), Cond.methodLink RX1 86 yX1_lessWorn, Cond.instanceMethod yX1_lessWorn, Cond.selects RX1 yX1_lessWorn yX1_lessWorn, Cond.code yX1_lessWorn cX1_lessWorn 3 (some .int), Cond.methodLink RX1 83 yX1_wornTogether, Cond.instanceMethod yX1_wornTogether, Cond.selects RX1 yX1_wornTogether yX1_wornTogether, Cond.code yX1_wornTogether cX1_wornTogether 5 (some .int), Cond.methodLink RX3 55 yX1_place, Cond.instanceMethod yX1_place]
def wsL_writeAll_r6 : List Cond := [Cond.selects RX1 yX1_place yX1_place, Cond.code yX1_place cX1_place 7 (some .int), Cond.methodLink RX1 76 yX1_numberOf, Cond.instanceMethod yX1_numberOf, Cond.selects RX1 yX1_numberOf yX1_numberOf, Cond.code yX1_numberOf cX1_numberOf 2 (some .int), Cond.methodLink RX1 73 yX1_numberIn, Cond.instanceMethod yX1_numberIn, Cond.selects RX1 yX1_numberIn yX1_numberIn, Cond.code yX1_numberIn cX1_numberIn 3 (some .int), Cond.methodLink RX1 95 yX1_wearCells, Cond.instanceMethod yX1_wearCells, Cond.selects RX1 yX1_wearCells yX1_wearCells, Cond.code yX1_wearCells cX1_wearCells 5 none, Cond.methodLink RX1 99 yX1_settle, Cond.instanceMethod yX1_settle, Cond.selects RX1 yX1_settle yX1_settle, Cond.code yX1_settle cX1_settle 4 none]
def wsL_writeAll : List Cond := .codeWith yL_writeAll cL_writeAll 3 (some .int) [(0, 8, 11, 15)] :: ((wsL_writeAll_r1 ++ (wsL_writeAll_r2 ++ (wsL_writeAll_r3 ++ (wsL_writeAll_r4 ++ (wsL_writeAll_r5 ++ wsL_writeAll_r6))))) ++ wsX30 ++ wsX20 ++ wsX00 ++ wsX10 ++ (vx_atS RX3 67 "java/lang/IllegalArgumentException" ["java/lang/RuntimeException", "java/lang/Exception"]).filter goodWord)
def wsL_undo_r1 : List Cond := [Cond.classLink RL 17 "java/lang/IllegalStateException", Cond.methodLink RL 40 yX3_undo, Cond.instanceMethod yX3_undo, Cond.selects RX3 yX3_undo yX3_undo, Cond.initialized RX3, Cond.code yX3_undo cX3_undo 1 (some .int), Cond.classLink RX3 44 "java/lang/IllegalStateException", Cond.initialized "java/lang/IllegalStateException", Cond.fieldLink RX3 22 "InsideOutWords" "history" "LInsideOutWords$History;", Cond.fieldLink RX3 128 "InsideOutWords$History" "size" "I", Cond.fieldLink RX3 10 "InsideOutWords" "now" "LInsideOutWords$State;", Cond.methodLink RX3 133 yX0_giveBack, Cond.instanceMethod yX0_giveBack, Cond.selects RX0 yX0_giveBack yX0_giveBack, Cond.initialized RX0, Cond.code yX0_giveBack cX0_giveBack 2 none, Cond.fieldLink RX0 11 "InsideOutWords$History" "rows" "[LInsideOutWords$State;", Cond.fieldLink RX0 18 "InsideOutWords$History" "size" "I", Cond.methodLink RX0 25 yX0_latest, Cond.instanceMethod yX0_latest, Cond.selects RX0 yX0_latest yX0_latest, Cond.code yX0_latest cX0_latest 1 (some .int), Cond.fieldLink RX0 22 "InsideOutWords$History" "oldest" "I", Cond.methodLink RX0 29 yX1_copyFrom]
def wsL_undo_r2 : List Cond := [Cond.instanceMethod yX1_copyFrom, Cond.selects RX1 yX1_copyFrom yX1_copyFrom, Cond.initialized RX1, Cond.code yX1_copyFrom cX1_copyFrom 2 none, Cond.fieldLink RX1 9 "InsideOutWords$State" "held" "[I", Cond.methodLink RX1 36 arraycopyName, Cond.native arraycopyName, Cond.static arraycopyName, Cond.initialized "java/lang/System", Cond.fieldLink RX1 15 "InsideOutWords$State" "worn" "[I", Cond.fieldLink RX1 18 "InsideOutWords$State" "wordIn" "[I", Cond.fieldLink RX1 21 "InsideOutWords$State" "slotOf" "[I", Cond.fieldLink RX1 24 "InsideOutWords$State" "writesHere" "[I", Cond.fieldLink RX1 27 "InsideOutWords$State" "writesOf" "[I", Cond.fieldLink RX1 30 "InsideOutWords$State" "movesOf" "[I", Cond.fieldLink RX1 33 "InsideOutWords$State" "settings" "[I", Cond.fieldLink RX1 42 "InsideOutWords$State" "writes" "I", Cond.fieldLink RX1 46 "InsideOutWords$State" "changes" "I", Cond.fieldLink RX1 49 "InsideOutWords$State" "plainChanges" "I", Cond.fieldLink RX1 52 "InsideOutWords$State" "moves" "I", Cond.fieldLink RX1 55 "InsideOutWords$State" "turnedWrites" "I"]
def wsL_undo : List Cond := .codeWith yL_undo cL_undo 3 (some .int) [(0, 8, 11, 17)] :: ((wsL_undo_r1 ++ wsL_undo_r2) ++ wsX30 ++ wsX00 ++ wsX10 ++ (vx_atS RX3 48 "java/lang/IllegalStateException" ["java/lang/RuntimeException", "java/lang/Exception"]).filter goodWord)
def wsL_read_r1 : List Cond := [Cond.classLink RL 13 "java/lang/IndexOutOfBoundsException", Cond.methodLink RL 43 yX3_read, Cond.instanceMethod yX3_read, Cond.selects RX3 yX3_read yX3_read, Cond.initialized RX3, Cond.code yX3_read cX3_read 2 (some .int), Cond.fieldLink RX3 10 "InsideOutWords" "now" "LInsideOutWords$State;", Cond.methodLink RX3 33 yX3_needWord, Cond.static yX3_needWord, Cond.code yX3_needWord cX3_needWord 1 none, Cond.classLink RX3 274 "java/lang/IndexOutOfBoundsException", Cond.initialized "java/lang/IndexOutOfBoundsException", Cond.methodLink RX3 59 yX3_isOutside, Cond.static yX3_isOutside, Cond.code yX3_isOutside cX3_isOutside 3 (some .boolean), Cond.methodLink RX3 136 yX1_numberOf, Cond.instanceMethod yX1_numberOf, Cond.selects RX1 yX1_numberOf yX1_numberOf, Cond.initialized RX1, Cond.code yX1_numberOf cX1_numberOf 2 (some .int), Cond.fieldLink RX1 21 "InsideOutWords$State" "slotOf" "[I", Cond.methodLink RX1 73 yX1_numberIn, Cond.instanceMethod yX1_numberIn, Cond.selects RX1 yX1_numberIn yX1_numberIn]
def wsL_read_r2 : List Cond := [Cond.code yX1_numberIn cX1_numberIn 3 (some .int), Cond.fieldLink RX1 9 "InsideOutWords$State" "held" "[I"]
def wsL_read : List Cond := .codeWith yL_read cL_read 4 (some .int) [(0, 9, 12, 13)] :: ((wsL_read_r1 ++ wsL_read_r2) ++ wsX30 ++ wsX10 ++ (vx_atS RX3 278 "java/lang/IndexOutOfBoundsException" ["java/lang/RuntimeException", "java/lang/Exception"]).filter goodWord)
def wsL_word_r1 : List Cond := [Cond.classLink RL 13 "java/lang/IndexOutOfBoundsException", Cond.classLink RL 15 "java/lang/IllegalArgumentException", Cond.methodLink RL 46 yX3_word, Cond.instanceMethod yX3_word, Cond.selects RX3 yX3_word yX3_word, Cond.initialized RX3, Cond.code yX3_word cX3_word 3 (some .int), Cond.fieldLink RX3 10 "InsideOutWords" "now" "LInsideOutWords$State;", Cond.fieldLink RX3 75 "InsideOutWords$State" "slotOf" "[I", Cond.fieldLink RX3 143 "InsideOutWords$State" "writesHere" "[I", Cond.fieldLink RX3 146 "InsideOutWords$State" "writesOf" "[I", Cond.fieldLink RX3 149 "InsideOutWords$State" "movesOf" "[I", Cond.methodLink RX3 33 yX3_needWord, Cond.static yX3_needWord, Cond.code yX3_needWord cX3_needWord 1 none, Cond.classLink RX3 274 "java/lang/IndexOutOfBoundsException", Cond.initialized "java/lang/IndexOutOfBoundsException", Cond.methodLink RX3 59 yX3_isOutside, Cond.static yX3_isOutside, Cond.code yX3_isOutside cX3_isOutside 3 (some .boolean), Cond.methodLink RX3 140 yX3_needWhat, Cond.static yX3_needWhat, Cond.code yX3_needWhat cX3_needWhat 2 none, Cond.classLink RX3 63 "java/lang/IllegalArgumentException"]
def wsL_word_r2 : List Cond := [Cond.initialized "java/lang/IllegalArgumentException", Cond.methodLink RX3 152 yX1_isHot, Cond.instanceMethod yX1_isHot, Cond.selects RX1 yX1_isHot yX1_isHot, Cond.initialized RX1, Cond.code yX1_isHot cX1_isHot 2 (some .boolean), Cond.fieldLink RX1 33 "InsideOutWords$State" "settings" "[I", Cond.fieldLink RX1 24 "InsideOutWords$State" "writesHere" "[I"]
def wsL_word : List Cond := .codeWith yL_word cL_word 5 (some .int) [(0, 10, 13, 13), (0, 10, 17, 15)] :: ((wsL_word_r1 ++ wsL_word_r2) ++ wsX30 ++ wsX10 ++ (vx_atS RX3 278 "java/lang/IndexOutOfBoundsException" ["java/lang/RuntimeException", "java/lang/Exception"]).filter goodWord ++ (vx_atS RX3 67 "java/lang/IllegalArgumentException" ["java/lang/RuntimeException", "java/lang/Exception"]).filter goodWord)
def wsL_slot_r1 : List Cond := [Cond.classLink RL 13 "java/lang/IndexOutOfBoundsException", Cond.classLink RL 15 "java/lang/IllegalArgumentException", Cond.methodLink RL 49 yX3_slot, Cond.instanceMethod yX3_slot, Cond.selects RX3 yX3_slot yX3_slot, Cond.initialized RX3, Cond.code yX3_slot cX3_slot 3 (some .int), Cond.fieldLink RX3 10 "InsideOutWords" "now" "LInsideOutWords$State;", Cond.fieldLink RX3 156 "InsideOutWords$State" "wordIn" "[I", Cond.fieldLink RX3 159 "InsideOutWords$State" "held" "[I", Cond.methodLink RX3 79 yX3_needSlot, Cond.static yX3_needSlot, Cond.code yX3_needSlot cX3_needSlot 1 none, Cond.classLink RX3 274 "java/lang/IndexOutOfBoundsException", Cond.initialized "java/lang/IndexOutOfBoundsException", Cond.methodLink RX3 59 yX3_isOutside, Cond.static yX3_isOutside, Cond.code yX3_isOutside cX3_isOutside 3 (some .boolean), Cond.methodLink RX3 140 yX3_needWhat, Cond.static yX3_needWhat, Cond.code yX3_needWhat cX3_needWhat 2 none, Cond.classLink RX3 63 "java/lang/IllegalArgumentException", Cond.initialized "java/lang/IllegalArgumentException", Cond.methodLink RX3 162 yX1_wornTogether]
def wsL_slot_r2 : List Cond := [Cond.instanceMethod yX1_wornTogether, Cond.selects RX1 yX1_wornTogether yX1_wornTogether, Cond.initialized RX1, Cond.code yX1_wornTogether cX1_wornTogether 5 (some .int), Cond.fieldLink RX1 15 "InsideOutWords$State" "worn" "[I", Cond.methodLink RX3 165 yX1_stuckIn, Cond.instanceMethod yX1_stuckIn, Cond.selects RX1 yX1_stuckIn yX1_stuckIn, Cond.code yX1_stuckIn cX1_stuckIn 5 (some .int), Cond.fieldLink RX1 33 "InsideOutWords$State" "settings" "[I", Cond.methodLink RX3 168 yX1_mostWorn, Cond.instanceMethod yX1_mostWorn, Cond.selects RX1 yX1_mostWorn yX1_mostWorn, Cond.code yX1_mostWorn cX1_mostWorn 5 (some .int), Cond.methodLink RX1 58 Lib.Math.max.name, Cond.static Lib.Math.max.name, Cond.initialized "java/lang/Math", Cond.code Lib.Math.max.name Lib.Math.max.code 2 (some .int)]
def wsL_slot : List Cond := .codeWith yL_slot cL_slot 5 (some .int) [(0, 10, 13, 13), (0, 10, 17, 15)] :: ((wsL_slot_r1 ++ wsL_slot_r2) ++ wsX30 ++ wsX10 ++ (vx_atS RX3 278 "java/lang/IndexOutOfBoundsException" ["java/lang/RuntimeException", "java/lang/Exception"]).filter goodWord ++ (vx_atS RX3 67 "java/lang/IllegalArgumentException" ["java/lang/RuntimeException", "java/lang/Exception"]).filter goodWord)
def wsL_wearOf : List Cond := .codeWith yL_wearOf cL_wearOf 5 (some .int) [(0, 10, 13, 13)] :: ([.classLink RL 13 "java/lang/IndexOutOfBoundsException", .methodLink RL 52 yX3_wearOf, .instanceMethod yX3_wearOf, .selects RX3 yX3_wearOf yX3_wearOf, .initialized RX3, .code yX3_wearOf cX3_wearOf 3 (some .int), .fieldLink RX3 10 "InsideOutWords" "now" "LInsideOutWords$State;", .methodLink RX3 79 yX3_needSlot, .static yX3_needSlot, .code yX3_needSlot cX3_needSlot 1 none, .classLink RX3 274 "java/lang/IndexOutOfBoundsException", .initialized "java/lang/IndexOutOfBoundsException", .methodLink RX3 59 yX3_isOutside, .static yX3_isOutside, .code yX3_isOutside cX3_isOutside 3 (some .boolean), .methodLink RX3 82 yX3_needCell, .static yX3_needCell, .code yX3_needCell cX3_needCell 1 none, .methodLink RX3 87 yX1_wornAt, .instanceMethod yX1_wornAt, .selects RX1 yX1_wornAt yX1_wornAt, .initialized RX1, .code yX1_wornAt cX1_wornAt 3 (some .int), .fieldLink RX1 15 "InsideOutWords$State" "worn" "[I"] ++ wsX30 ++ wsX10 ++ (vx_atS RX3 278 "java/lang/IndexOutOfBoundsException" ["java/lang/RuntimeException", "java/lang/Exception"]).filter goodWord)
def wsL_count_r1 : List Cond := [Cond.classLink RL 15 "java/lang/IllegalArgumentException", Cond.methodLink RL 55 yX3_count, Cond.instanceMethod yX3_count, Cond.selects RX3 yX3_count yX3_count, Cond.initialized RX3, Cond.code yX3_count cX3_count 2 (some .int), Cond.fieldLink RX3 10 "InsideOutWords" "now" "LInsideOutWords$State;", Cond.fieldLink RX3 171 "InsideOutWords$State" "writes" "I", Cond.fieldLink RX3 174 "InsideOutWords$State" "changes" "I", Cond.fieldLink RX3 177 "InsideOutWords$State" "plainChanges" "I", Cond.fieldLink RX3 180 "InsideOutWords$State" "moves" "I", Cond.fieldLink RX3 183 "InsideOutWords$State" "turnedWrites" "I", Cond.fieldLink RX3 22 "InsideOutWords" "history" "LInsideOutWords$History;", Cond.fieldLink RX3 128 "InsideOutWords$History" "size" "I", Cond.methodLink RX3 140 yX3_needWhat, Cond.static yX3_needWhat, Cond.code yX3_needWhat cX3_needWhat 2 none, Cond.classLink RX3 63 "java/lang/IllegalArgumentException", Cond.initialized "java/lang/IllegalArgumentException", Cond.methodLink RX3 59 yX3_isOutside, Cond.static yX3_isOutside, Cond.code yX3_isOutside cX3_isOutside 3 (some .boolean), Cond.methodLink RX3 186 yX1_stuckCells, Cond.instanceMethod yX1_stuckCells]
def wsL_count_r2 : List Cond := [Cond.selects RX1 yX1_stuckCells yX1_stuckCells, Cond.initialized RX1, Cond.code yX1_stuckCells cX1_stuckCells 3 (some .int), Cond.methodLink RX1 64 yX1_stuckIn, Cond.instanceMethod yX1_stuckIn, Cond.selects RX1 yX1_stuckIn yX1_stuckIn, Cond.code yX1_stuckIn cX1_stuckIn 5 (some .int), Cond.fieldLink RX1 15 "InsideOutWords$State" "worn" "[I", Cond.fieldLink RX1 33 "InsideOutWords$State" "settings" "[I", Cond.methodLink RX1 68 yJ6_bitCount_0f7a4, Cond.static yJ6_bitCount_0f7a4, Cond.initialized RJ6, Cond.code yJ6_bitCount_0f7a4 cJ6_bitCount_0f7a4 1 (some .int), Cond.constant RJ6 265 (1431655765), Cond.constant RJ6 266 (858993459), Cond.constant RJ6 267 (252645135), Cond.methodLink RX3 189 yX1_leastWornFree, Cond.instanceMethod yX1_leastWornFree, Cond.selects RX1 yX1_leastWornFree yX1_leastWornFree, Cond.code yX1_leastWornFree cX1_leastWornFree 3 (some .int), Cond.fieldLink RX1 18 "InsideOutWords$State" "wordIn" "[I", Cond.methodLink RX1 86 yX1_lessWorn, Cond.instanceMethod yX1_lessWorn, Cond.selects RX1 yX1_lessWorn yX1_lessWorn]
def wsL_count_r3 : List Cond := [Cond.code yX1_lessWorn cX1_lessWorn 3 (some .int), Cond.methodLink RX1 83 yX1_wornTogether, Cond.instanceMethod yX1_wornTogether, Cond.selects RX1 yX1_wornTogether yX1_wornTogether, Cond.code yX1_wornTogether cX1_wornTogether 5 (some .int), Cond.methodLink RX3 192 yX1_hotWords, Cond.instanceMethod yX1_hotWords, Cond.selects RX1 yX1_hotWords yX1_hotWords, Cond.code yX1_hotWords cX1_hotWords 3 (some .int), Cond.methodLink RX1 79 yX1_isHot, Cond.instanceMethod yX1_isHot, Cond.selects RX1 yX1_isHot yX1_isHot, Cond.code yX1_isHot cX1_isHot 2 (some .boolean), Cond.fieldLink RX1 24 "InsideOutWords$State" "writesHere" "[I", Cond.methodLink RX3 195 yX1_sumOfWords, Cond.instanceMethod yX1_sumOfWords, Cond.selects RX1 yX1_sumOfWords yX1_sumOfWords, Cond.code yX1_sumOfWords cX1_sumOfWords 3 (some .int), Cond.methodLink RX1 76 yX1_numberOf, Cond.instanceMethod yX1_numberOf, Cond.selects RX1 yX1_numberOf yX1_numberOf, Cond.code yX1_numberOf cX1_numberOf 2 (some .int), Cond.fieldLink RX1 21 "InsideOutWords$State" "slotOf" "[I", Cond.methodLink RX1 73 yX1_numberIn]
def wsL_count_r4 : List Cond := [Cond.instanceMethod yX1_numberIn, Cond.selects RX1 yX1_numberIn yX1_numberIn, Cond.code yX1_numberIn cX1_numberIn 3 (some .int), Cond.fieldLink RX1 9 "InsideOutWords$State" "held" "[I"]
def wsL_count : List Cond := .codeWith yL_count cL_count 4 (some .int) [(0, 9, 12, 15)] :: ((wsL_count_r1 ++ (wsL_count_r2 ++ (wsL_count_r3 ++ wsL_count_r4))) ++ wsX30 ++ wsX10 ++ wsX00 ++ (vx_atS RX3 67 "java/lang/IllegalArgumentException" ["java/lang/RuntimeException", "java/lang/Exception"]).filter goodWord)
def wsL_setting : List Cond := .codeWith yL_setting cL_setting 4 (some .int) [(0, 9, 12, 13)] :: ([.classLink RL 13 "java/lang/IndexOutOfBoundsException", .methodLink RL 58 yX3_setting, .instanceMethod yX3_setting, .selects RX3 yX3_setting yX3_setting, .initialized RX3, .code yX3_setting cX3_setting 2 (some .int), .fieldLink RX3 10 "InsideOutWords" "now" "LInsideOutWords$State;", .fieldLink RX3 101 "InsideOutWords$State" "settings" "[I", .methodLink RX3 96 yX3_needSetting, .static yX3_needSetting, .code yX3_needSetting cX3_needSetting 1 none, .classLink RX3 274 "java/lang/IndexOutOfBoundsException", .initialized "java/lang/IndexOutOfBoundsException", .methodLink RX3 59 yX3_isOutside, .static yX3_isOutside, .code yX3_isOutside cX3_isOutside 3 (some .boolean)] ++ wsX30 ++ wsX10 ++ (vx_atS RX3 278 "java/lang/IndexOutOfBoundsException" ["java/lang/RuntimeException", "java/lang/Exception"]).filter goodWord)
def wsL_cost_r1 : List Cond := [Cond.classLink RL 13 "java/lang/IndexOutOfBoundsException", Cond.classLink RL 15 "java/lang/IllegalArgumentException", Cond.methodLink RL 61 yX3_cost, Cond.instanceMethod yX3_cost, Cond.selects RX3 yX3_cost yX3_cost, Cond.initialized RX3, Cond.code yX3_cost cX3_cost 4 (some .int), Cond.fieldLink RX3 10 "InsideOutWords" "now" "LInsideOutWords$State;", Cond.fieldLink RX3 159 "InsideOutWords$State" "held" "[I", Cond.methodLink RX3 79 yX3_needSlot, Cond.static yX3_needSlot, Cond.code yX3_needSlot cX3_needSlot 1 none, Cond.classLink RX3 274 "java/lang/IndexOutOfBoundsException", Cond.initialized "java/lang/IndexOutOfBoundsException", Cond.methodLink RX3 59 yX3_isOutside, Cond.static yX3_isOutside, Cond.code yX3_isOutside cX3_isOutside 3 (some .boolean), Cond.methodLink RX3 37 yX3_needNumber, Cond.static yX3_needNumber, Cond.code yX3_needNumber cX3_needNumber 1 none, Cond.classLink RX3 63 "java/lang/IllegalArgumentException", Cond.initialized "java/lang/IllegalArgumentException", Cond.methodLink RX3 198 yX1_wayIn, Cond.instanceMethod yX1_wayIn]
def wsL_cost_r2 : List Cond := [Cond.selects RX1 yX1_wayIn yX1_wayIn, Cond.initialized RX1, Cond.code yX1_wayIn cX1_wayIn 10 (some .int), Cond.fieldLink RX1 9 "InsideOutWords$State" "held" "[I", Cond.methodLink RX1 64 yX1_stuckIn, Cond.instanceMethod yX1_stuckIn, Cond.selects RX1 yX1_stuckIn yX1_stuckIn, Cond.code yX1_stuckIn cX1_stuckIn 5 (some .int), Cond.fieldLink RX1 15 "InsideOutWords$State" "worn" "[I", Cond.fieldLink RX1 33 "InsideOutWords$State" "settings" "[I", Cond.methodLink RX1 68 yJ6_bitCount_0f7a4, Cond.static yJ6_bitCount_0f7a4, Cond.initialized RJ6, Cond.code yJ6_bitCount_0f7a4 cJ6_bitCount_0f7a4 1 (some .int), Cond.constant RJ6 265 (1431655765), Cond.constant RJ6 266 (858993459), Cond.constant RJ6 267 (252645135), Cond.methodLink RX3 201 yJ6_bitCount_0f7a4]
def wsL_cost : List Cond := .codeWith yL_cost cL_cost 5 (some .int) [(0, 10, 13, 13), (0, 10, 17, 15)] :: ((wsL_cost_r1 ++ wsL_cost_r2) ++ wsX30 ++ wsX10 ++ (vx_atS RX3 278 "java/lang/IndexOutOfBoundsException" ["java/lang/RuntimeException", "java/lang/Exception"]).filter goodWord ++ (vx_atS RX3 67 "java/lang/IllegalArgumentException" ["java/lang/RuntimeException", "java/lang/Exception"]).filter goodWord)
def wsL_ifWritten_r1 : List Cond := [Cond.classLink RL 13 "java/lang/IndexOutOfBoundsException", Cond.classLink RL 15 "java/lang/IllegalArgumentException", Cond.methodLink RL 64 yX3_ifWritten, Cond.instanceMethod yX3_ifWritten, Cond.selects RX3 yX3_ifWritten yX3_ifWritten, Cond.initialized RX3, Cond.code yX3_ifWritten cX3_ifWritten 3 (some .int), Cond.fieldLink RX3 10 "InsideOutWords" "now" "LInsideOutWords$State;", Cond.methodLink RX3 33 yX3_needWord, Cond.static yX3_needWord, Cond.code yX3_needWord cX3_needWord 1 none, Cond.classLink RX3 274 "java/lang/IndexOutOfBoundsException", Cond.initialized "java/lang/IndexOutOfBoundsException", Cond.methodLink RX3 59 yX3_isOutside, Cond.static yX3_isOutside, Cond.code yX3_isOutside cX3_isOutside 3 (some .boolean), Cond.methodLink RX3 37 yX3_needNumber, Cond.static yX3_needNumber, Cond.code yX3_needNumber cX3_needNumber 1 none, Cond.classLink RX3 63 "java/lang/IllegalArgumentException", Cond.initialized "java/lang/IllegalArgumentException", Cond.methodLink RX3 40 yX1_targetOf, Cond.instanceMethod yX1_targetOf, Cond.selects RX1 yX1_targetOf yX1_targetOf]
def wsL_ifWritten_r2 : List Cond := [Cond.initialized RX1, Cond.code yX1_targetOf cX1_targetOf 6 (some .int), Cond.fieldLink RX1 21 "InsideOutWords$State" "slotOf" "[I", Cond.methodLink RX1 89 yX1_wayIn, Cond.instanceMethod yX1_wayIn, Cond.selects RX1 yX1_wayIn yX1_wayIn, Cond.code yX1_wayIn cX1_wayIn 10 (some .int), Cond.fieldLink RX1 9 "InsideOutWords$State" "held" "[I", Cond.methodLink RX1 64 yX1_stuckIn, Cond.instanceMethod yX1_stuckIn, Cond.selects RX1 yX1_stuckIn yX1_stuckIn, Cond.code yX1_stuckIn cX1_stuckIn 5 (some .int), Cond.fieldLink RX1 15 "InsideOutWords$State" "worn" "[I", Cond.fieldLink RX1 33 "InsideOutWords$State" "settings" "[I", Cond.methodLink RX1 68 yJ6_bitCount_0f7a4, Cond.static yJ6_bitCount_0f7a4, Cond.initialized RJ6, Cond.code yJ6_bitCount_0f7a4 cJ6_bitCount_0f7a4 1 (some .int), Cond.constant RJ6 265 (1431655765), Cond.constant RJ6 266 (858993459), Cond.constant RJ6 267 (252645135), Cond.methodLink RX1 79 yX1_isHot, Cond.instanceMethod yX1_isHot, Cond.selects RX1 yX1_isHot yX1_isHot]
def wsL_ifWritten_r3 : List Cond := [Cond.code yX1_isHot cX1_isHot 2 (some .boolean), Cond.fieldLink RX1 24 "InsideOutWords$State" "writesHere" "[I", Cond.methodLink RX1 92 yX1_leastWornFreeFor, Cond.instanceMethod yX1_leastWornFreeFor, Cond.selects RX1 yX1_leastWornFreeFor yX1_leastWornFreeFor, Cond.code yX1_leastWornFreeFor cX1_leastWornFreeFor 4 (some .int), Cond.fieldLink RX1 18 "InsideOutWords$State" "wordIn" "[I", Cond.methodLink RX1 86 yX1_lessWorn, Cond.instanceMethod yX1_lessWorn, Cond.selects RX1 yX1_lessWorn yX1_lessWorn, Cond.code yX1_lessWorn cX1_lessWorn 3 (some .int), Cond.methodLink RX1 83 yX1_wornTogether, Cond.instanceMethod yX1_wornTogether, Cond.selects RX1 yX1_wornTogether yX1_wornTogether, Cond.code yX1_wornTogether cX1_wornTogether 5 (some .int)]
def wsL_ifWritten : List Cond := .codeWith yL_ifWritten cL_ifWritten 5 (some .int) [(0, 10, 13, 13), (0, 10, 17, 15)] :: ((wsL_ifWritten_r1 ++ (wsL_ifWritten_r2 ++ wsL_ifWritten_r3)) ++ wsX30 ++ wsX10 ++ (vx_atS RX3 278 "java/lang/IndexOutOfBoundsException" ["java/lang/RuntimeException", "java/lang/Exception"]).filter goodWord ++ (vx_atS RX3 67 "java/lang/IllegalArgumentException" ["java/lang/RuntimeException", "java/lang/Exception"]).filter goodWord)
def wsL_costliest_r1 : List Cond := [Cond.classLink RL 13 "java/lang/IndexOutOfBoundsException", Cond.methodLink RL 67 yX3_costliest, Cond.instanceMethod yX3_costliest, Cond.selects RX3 yX3_costliest yX3_costliest, Cond.initialized RX3, Cond.code yX3_costliest cX3_costliest 2 (some .int), Cond.fieldLink RX3 10 "InsideOutWords" "now" "LInsideOutWords$State;", Cond.fieldLink RX3 75 "InsideOutWords$State" "slotOf" "[I", Cond.methodLink RX3 33 yX3_needWord, Cond.static yX3_needWord, Cond.code yX3_needWord cX3_needWord 1 none, Cond.classLink RX3 274 "java/lang/IndexOutOfBoundsException", Cond.initialized "java/lang/IndexOutOfBoundsException", Cond.methodLink RX3 59 yX3_isOutside, Cond.static yX3_isOutside, Cond.code yX3_isOutside cX3_isOutside 3 (some .boolean), Cond.methodLink RX3 206 yX1_dearestIn, Cond.instanceMethod yX1_dearestIn, Cond.selects RX1 yX1_dearestIn yX1_dearestIn, Cond.initialized RX1, Cond.code yX1_dearestIn cX1_dearestIn 4 (some .int), Cond.methodLink RX1 73 yX1_numberIn, Cond.instanceMethod yX1_numberIn, Cond.selects RX1 yX1_numberIn yX1_numberIn]
def wsL_costliest_r2 : List Cond := [Cond.code yX1_numberIn cX1_numberIn 3 (some .int), Cond.fieldLink RX1 9 "InsideOutWords$State" "held" "[I", Cond.methodLink RX1 64 yX1_stuckIn, Cond.instanceMethod yX1_stuckIn, Cond.selects RX1 yX1_stuckIn yX1_stuckIn, Cond.code yX1_stuckIn cX1_stuckIn 5 (some .int), Cond.fieldLink RX1 15 "InsideOutWords$State" "worn" "[I", Cond.fieldLink RX1 33 "InsideOutWords$State" "settings" "[I", Cond.methodLink RX1 109 yX1_lowestHalfwayFrom, Cond.static yX1_lowestHalfwayFrom, Cond.code yX1_lowestHalfwayFrom cX1_lowestHalfwayFrom 2 (some .int), Cond.methodLink RX1 68 yJ6_bitCount_0f7a4, Cond.static yJ6_bitCount_0f7a4, Cond.initialized RJ6, Cond.code yJ6_bitCount_0f7a4 cJ6_bitCount_0f7a4 1 (some .int), Cond.constant RJ6 265 (1431655765), Cond.constant RJ6 266 (858993459), Cond.constant RJ6 267 (252645135), Cond.methodLink RX1 112 yX1_lowestOnes, Cond.static yX1_lowestOnes, Cond.code yX1_lowestOnes cX1_lowestOnes 4 (some .int)]
def wsL_costliest : List Cond := .codeWith yL_costliest cL_costliest 4 (some .int) [(0, 9, 12, 13)] :: ((wsL_costliest_r1 ++ wsL_costliest_r2) ++ wsX30 ++ wsX10 ++ (vx_atS RX3 278 "java/lang/IndexOutOfBoundsException" ["java/lang/RuntimeException", "java/lang/Exception"]).filter goodWord)
def wsL_life_r1 : List Cond := [Cond.classLink RL 13 "java/lang/IndexOutOfBoundsException", Cond.classLink RL 15 "java/lang/IllegalArgumentException", Cond.methodLink RL 70 yX3_life, Cond.instanceMethod yX3_life, Cond.selects RX3 yX3_life yX3_life, Cond.initialized RX3, Cond.code yX3_life cX3_life 3 (some .int), Cond.fieldLink RX3 16 "InsideOutWords" "trial" "LInsideOutWords$State;", Cond.fieldLink RX3 10 "InsideOutWords" "now" "LInsideOutWords$State;", Cond.methodLink RX3 33 yX3_needWord, Cond.static yX3_needWord, Cond.code yX3_needWord cX3_needWord 1 none, Cond.classLink RX3 274 "java/lang/IndexOutOfBoundsException", Cond.initialized "java/lang/IndexOutOfBoundsException", Cond.methodLink RX3 59 yX3_isOutside, Cond.static yX3_isOutside, Cond.code yX3_isOutside cX3_isOutside 3 (some .boolean), Cond.methodLink RX3 37 yX3_needNumber, Cond.static yX3_needNumber, Cond.code yX3_needNumber cX3_needNumber 1 none, Cond.classLink RX3 63 "java/lang/IllegalArgumentException", Cond.initialized "java/lang/IllegalArgumentException", Cond.methodLink RX3 209 yX1_copyFrom, Cond.instanceMethod yX1_copyFrom]
def wsL_life_r2 : List Cond := [Cond.selects RX1 yX1_copyFrom yX1_copyFrom, Cond.initialized RX1, Cond.code yX1_copyFrom cX1_copyFrom 2 none, Cond.fieldLink RX1 9 "InsideOutWords$State" "held" "[I", Cond.methodLink RX1 36 arraycopyName, Cond.native arraycopyName, Cond.static arraycopyName, Cond.initialized "java/lang/System", Cond.fieldLink RX1 15 "InsideOutWords$State" "worn" "[I", Cond.fieldLink RX1 18 "InsideOutWords$State" "wordIn" "[I", Cond.fieldLink RX1 21 "InsideOutWords$State" "slotOf" "[I", Cond.fieldLink RX1 24 "InsideOutWords$State" "writesHere" "[I", Cond.fieldLink RX1 27 "InsideOutWords$State" "writesOf" "[I", Cond.fieldLink RX1 30 "InsideOutWords$State" "movesOf" "[I", Cond.fieldLink RX1 33 "InsideOutWords$State" "settings" "[I", Cond.fieldLink RX1 42 "InsideOutWords$State" "writes" "I", Cond.fieldLink RX1 46 "InsideOutWords$State" "changes" "I", Cond.fieldLink RX1 49 "InsideOutWords$State" "plainChanges" "I", Cond.fieldLink RX1 52 "InsideOutWords$State" "moves" "I", Cond.fieldLink RX1 55 "InsideOutWords$State" "turnedWrites" "I", Cond.methodLink RX3 68 yX1_placeInTurns, Cond.instanceMethod yX1_placeInTurns, Cond.selects RX1 yX1_placeInTurns yX1_placeInTurns, Cond.code yX1_placeInTurns cX1_placeInTurns 7 (some .int)]
def wsL_life_r3 : List Cond := [Cond.methodLink RX1 102 yX1_targetOf, Cond.instanceMethod yX1_targetOf, Cond.selects RX1 yX1_targetOf yX1_targetOf, Cond.code yX1_targetOf cX1_targetOf 6 (some .int), Cond.methodLink RX1 89 yX1_wayIn, Cond.instanceMethod yX1_wayIn, Cond.selects RX1 yX1_wayIn yX1_wayIn, Cond.code yX1_wayIn cX1_wayIn 10 (some .int), Cond.methodLink RX1 64 yX1_stuckIn, Cond.instanceMethod yX1_stuckIn, Cond.selects RX1 yX1_stuckIn yX1_stuckIn, Cond.code yX1_stuckIn cX1_stuckIn 5 (some .int), Cond.methodLink RX1 68 yJ6_bitCount_0f7a4, Cond.static yJ6_bitCount_0f7a4, Cond.initialized RJ6, Cond.code yJ6_bitCount_0f7a4 cJ6_bitCount_0f7a4 1 (some .int), Cond.constant RJ6 265 (1431655765), Cond.constant RJ6 266 (858993459), Cond.constant RJ6 267 (252645135), Cond.methodLink RX1 79 yX1_isHot, Cond.instanceMethod yX1_isHot, Cond.selects RX1 yX1_isHot yX1_isHot, Cond.code yX1_isHot cX1_isHot 2 (some .boolean), Cond.methodLink RX1 92 yX1_leastWornFreeFor]
def wsL_life_r4 : List Cond := [Cond.instanceMethod yX1_leastWornFreeFor, Cond.selects RX1 yX1_leastWornFreeFor yX1_leastWornFreeFor, Cond.code yX1_leastWornFreeFor cX1_leastWornFreeFor 4 (some .int), Cond.methodLink RX1 86 yX1_lessWorn, Cond.instanceMethod yX1_lessWorn, Cond.selects RX1 yX1_lessWorn yX1_lessWorn, Cond.code yX1_lessWorn cX1_lessWorn 3 (some .int), Cond.methodLink RX1 83 yX1_wornTogether, Cond.instanceMethod yX1_wornTogether, Cond.selects RX1 yX1_wornTogether yX1_wornTogether, Cond.code yX1_wornTogether cX1_wornTogether 5 (some .int), Cond.methodLink RX1 105 yX1_place, Cond.instanceMethod yX1_place, Cond.selects RX1 yX1_place yX1_place, Cond.code yX1_place cX1_place 7 (some .int), Cond.methodLink RX1 76 yX1_numberOf, Cond.instanceMethod yX1_numberOf, Cond.selects RX1 yX1_numberOf yX1_numberOf, Cond.code yX1_numberOf cX1_numberOf 2 (some .int), Cond.methodLink RX1 73 yX1_numberIn, Cond.instanceMethod yX1_numberIn, Cond.selects RX1 yX1_numberIn yX1_numberIn, Cond.code yX1_numberIn cX1_numberIn 3 (some .int), Cond.methodLink RX1 95 yX1_wearCells]
def wsL_life_r5 : List Cond := [Cond.instanceMethod yX1_wearCells, Cond.selects RX1 yX1_wearCells yX1_wearCells, Cond.code yX1_wearCells cX1_wearCells 5 none, Cond.methodLink RX1 99 yX1_settle, Cond.instanceMethod yX1_settle, Cond.selects RX1 yX1_settle yX1_settle, Cond.code yX1_settle cX1_settle 4 none]
def wsL_life : List Cond := .codeWith yL_life cL_life 5 (some .int) [(0, 10, 13, 13), (0, 10, 17, 15)] :: ((wsL_life_r1 ++ (wsL_life_r2 ++ (wsL_life_r3 ++ (wsL_life_r4 ++ wsL_life_r5)))) ++ wsX30 ++ wsX10 ++ (vx_atS RX3 278 "java/lang/IndexOutOfBoundsException" ["java/lang/RuntimeException", "java/lang/Exception"]).filter goodWord ++ (vx_atS RX3 67 "java/lang/IllegalArgumentException" ["java/lang/RuntimeException", "java/lang/Exception"]).filter goodWord)
set_option maxRecDepth 20000 in
theorem ggX0_init_X1_init : GoodIn wsX0_init wsX1_init := goodIn_r _ [10, 11, 2, 3, 12, 13, 14, 15, 16, 17, 18, 19, 20, 24, 25, 26, 27, 28, 29, 30, 31, 32, 33, 34, 35, 36] (by decide +kernel) (by decide +kernel)
set_option maxRecDepth 20000 in
theorem gX0_init_X1_init : GoodIn wsX0_init (wsX1_init) := ggX0_init_X1_init
theorem dX0_init_0 : decode cX0_init 0 = .ok (.aload_n 0, 1) := by decide +kernel
theorem dX0_init_1 : decode cX0_init 1 = .ok (.invokespecial 3, 3) := by decide +kernel
theorem dX0_init_4 : decode cX0_init 4 = .ok (.aload_n 0, 1) := by decide +kernel
theorem dX0_init_5 : decode cX0_init 5 = .ok (.bipush 6, 2) := by decide +kernel
theorem dX0_init_7 : decode cX0_init 7 = .ok (.anewarray 9, 3) := by decide +kernel
theorem dX0_init_10 : decode cX0_init 10 = .ok (.putfield 11, 3) := by decide +kernel
theorem dX0_init_13 : decode cX0_init 13 = .ok (.iconst 0, 1) := by decide +kernel
theorem dX0_init_14 : decode cX0_init 14 = .ok (.istore_n 1, 1) := by decide +kernel
theorem dX0_init_15 : decode cX0_init 15 = .ok (.iload_n 1, 1) := by decide +kernel
theorem dX0_init_16 : decode cX0_init 16 = .ok (.bipush 6, 2) := by decide +kernel
theorem dX0_init_18 : decode cX0_init 18 = .ok (.if_icmp .ge 22, 3) := by decide +kernel
theorem dX0_init_21 : decode cX0_init 21 = .ok (.aload_n 0, 1) := by decide +kernel
theorem dX0_init_22 : decode cX0_init 22 = .ok (.getfield 11, 3) := by decide +kernel
theorem dX0_init_25 : decode cX0_init 25 = .ok (.iload_n 1, 1) := by decide +kernel
theorem dX0_init_26 : decode cX0_init 26 = .ok (.new 9, 3) := by decide +kernel
theorem dX0_init_29 : decode cX0_init 29 = .ok (.dup, 1) := by decide +kernel
theorem dX0_init_30 : decode cX0_init 30 = .ok (.invokespecial 17, 3) := by decide +kernel
theorem dX0_init_33 : decode cX0_init 33 = .ok (.aastore, 1) := by decide +kernel
theorem dX0_init_34 : decode cX0_init 34 = .ok (.iinc 1 1, 3) := by decide +kernel
theorem dX0_init_37 : decode cX0_init 37 = .ok (.goto (-22), 3) := by decide +kernel
theorem dX0_init_40 : decode cX0_init 40 = .ok (.return_, 1) := by decide +kernel
set_option maxRecDepth 20000 in
theorem ggX0_keep_X0_latest : GoodIn wsX0_keep wsX0_latest := goodIn_r _ [8, 2, 1, 31, 32, 33] (by decide +kernel) (by decide +kernel)
set_option maxRecDepth 20000 in
theorem gX0_keep_X0_latest : GoodIn wsX0_keep (wsV RX0 25 RX0 yX0_latest wsX0_latest) := goodIn_app (goodIn_of _ (by decide +kernel)) ggX0_keep_X0_latest
set_option maxRecDepth 20000 in
theorem ggX0_keep_X1_copyFrom : GoodIn wsX0_keep wsX1_copyFrom := goodIn_r _ [13, 14, 15, 16, 17, 18, 19, 20, 21, 22, 23, 24, 25, 26, 27, 28, 29, 30, 34, 35, 36, 37, 38, 39, 40, 41, 42, 43, 44, 45, 46] (by decide +kernel) (by decide +kernel)
set_option maxRecDepth 20000 in
theorem gX0_keep_X1_copyFrom : GoodIn wsX0_keep (wsV RX0 29 RX1 yX1_copyFrom wsX1_copyFrom) := goodIn_app (goodIn_of _ (by decide +kernel)) ggX0_keep_X1_copyFrom
theorem dX0_keep_0 : decode cX0_keep 0 = .ok (.aload_n 0, 1) := by decide +kernel
theorem dX0_keep_1 : decode cX0_keep 1 = .ok (.getfield 18, 3) := by decide +kernel
theorem dX0_keep_4 : decode cX0_keep 4 = .ok (.bipush 6, 2) := by decide +kernel
theorem dX0_keep_6 : decode cX0_keep 6 = .ok (.if_icmp .ne 19, 3) := by decide +kernel
theorem dX0_keep_9 : decode cX0_keep 9 = .ok (.aload_n 0, 1) := by decide +kernel
theorem dX0_keep_10 : decode cX0_keep 10 = .ok (.aload_n 0, 1) := by decide +kernel
theorem dX0_keep_11 : decode cX0_keep 11 = .ok (.getfield 22, 3) := by decide +kernel
theorem dX0_keep_14 : decode cX0_keep 14 = .ok (.iconst 1, 1) := by decide +kernel
theorem dX0_keep_15 : decode cX0_keep 15 = .ok (.iadd, 1) := by decide +kernel
theorem dX0_keep_16 : decode cX0_keep 16 = .ok (.bipush 6, 2) := by decide +kernel
theorem dX0_keep_18 : decode cX0_keep 18 = .ok (.irem, 1) := by decide +kernel
theorem dX0_keep_19 : decode cX0_keep 19 = .ok (.putfield 22, 3) := by decide +kernel
theorem dX0_keep_22 : decode cX0_keep 22 = .ok (.goto 13, 3) := by decide +kernel
theorem dX0_keep_25 : decode cX0_keep 25 = .ok (.aload_n 0, 1) := by decide +kernel
theorem dX0_keep_26 : decode cX0_keep 26 = .ok (.dup, 1) := by decide +kernel
theorem dX0_keep_27 : decode cX0_keep 27 = .ok (.getfield 18, 3) := by decide +kernel
theorem dX0_keep_30 : decode cX0_keep 30 = .ok (.iconst 1, 1) := by decide +kernel
theorem dX0_keep_31 : decode cX0_keep 31 = .ok (.iadd, 1) := by decide +kernel
theorem dX0_keep_32 : decode cX0_keep 32 = .ok (.putfield 18, 3) := by decide +kernel
theorem dX0_keep_35 : decode cX0_keep 35 = .ok (.aload_n 0, 1) := by decide +kernel
theorem dX0_keep_36 : decode cX0_keep 36 = .ok (.getfield 11, 3) := by decide +kernel
theorem dX0_keep_39 : decode cX0_keep 39 = .ok (.aload_n 0, 1) := by decide +kernel
theorem dX0_keep_40 : decode cX0_keep 40 = .ok (.invokevirtual 25, 3) := by decide +kernel
theorem dX0_keep_43 : decode cX0_keep 43 = .ok (.aaload, 1) := by decide +kernel
theorem dX0_keep_44 : decode cX0_keep 44 = .ok (.aload_n 1, 1) := by decide +kernel
theorem dX0_keep_45 : decode cX0_keep 45 = .ok (.invokevirtual 29, 3) := by decide +kernel
theorem dX0_keep_48 : decode cX0_keep 48 = .ok (.return_, 1) := by decide +kernel
set_option maxRecDepth 20000 in
theorem ggX0_giveBack_X0_latest : GoodIn wsX0_giveBack wsX0_latest := goodIn_r _ [7, 8, 2, 31, 32, 33] (by decide +kernel) (by decide +kernel)
set_option maxRecDepth 20000 in
theorem gX0_giveBack_X0_latest : GoodIn wsX0_giveBack (wsV RX0 25 RX0 yX0_latest wsX0_latest) := goodIn_app (goodIn_of _ (by decide +kernel)) ggX0_giveBack_X0_latest
set_option maxRecDepth 20000 in
theorem ggX0_giveBack_X1_copyFrom : GoodIn wsX0_giveBack wsX1_copyFrom := goodIn_r _ [13, 14, 15, 16, 17, 18, 19, 20, 21, 22, 23, 24, 25, 26, 27, 28, 29, 30, 34, 35, 36, 37, 38, 39, 40, 41, 42, 43, 44, 45, 46] (by decide +kernel) (by decide +kernel)
set_option maxRecDepth 20000 in
theorem gX0_giveBack_X1_copyFrom : GoodIn wsX0_giveBack (wsV RX0 29 RX1 yX1_copyFrom wsX1_copyFrom) := goodIn_app (goodIn_of _ (by decide +kernel)) ggX0_giveBack_X1_copyFrom
theorem dX0_giveBack_0 : decode cX0_giveBack 0 = .ok (.aload_n 1, 1) := by decide +kernel
theorem dX0_giveBack_1 : decode cX0_giveBack 1 = .ok (.aload_n 0, 1) := by decide +kernel
theorem dX0_giveBack_2 : decode cX0_giveBack 2 = .ok (.getfield 11, 3) := by decide +kernel
theorem dX0_giveBack_5 : decode cX0_giveBack 5 = .ok (.aload_n 0, 1) := by decide +kernel
theorem dX0_giveBack_6 : decode cX0_giveBack 6 = .ok (.invokevirtual 25, 3) := by decide +kernel
theorem dX0_giveBack_9 : decode cX0_giveBack 9 = .ok (.aaload, 1) := by decide +kernel
theorem dX0_giveBack_10 : decode cX0_giveBack 10 = .ok (.invokevirtual 29, 3) := by decide +kernel
theorem dX0_giveBack_13 : decode cX0_giveBack 13 = .ok (.aload_n 0, 1) := by decide +kernel
theorem dX0_giveBack_14 : decode cX0_giveBack 14 = .ok (.dup, 1) := by decide +kernel
theorem dX0_giveBack_15 : decode cX0_giveBack 15 = .ok (.getfield 18, 3) := by decide +kernel
theorem dX0_giveBack_18 : decode cX0_giveBack 18 = .ok (.iconst 1, 1) := by decide +kernel
theorem dX0_giveBack_19 : decode cX0_giveBack 19 = .ok (.isub, 1) := by decide +kernel
theorem dX0_giveBack_20 : decode cX0_giveBack 20 = .ok (.putfield 18, 3) := by decide +kernel
theorem dX0_giveBack_23 : decode cX0_giveBack 23 = .ok (.return_, 1) := by decide +kernel
theorem dX0_latest_0 : decode cX0_latest 0 = .ok (.aload_n 0, 1) := by decide +kernel
theorem dX0_latest_1 : decode cX0_latest 1 = .ok (.getfield 22, 3) := by decide +kernel
theorem dX0_latest_4 : decode cX0_latest 4 = .ok (.aload_n 0, 1) := by decide +kernel
theorem dX0_latest_5 : decode cX0_latest 5 = .ok (.getfield 18, 3) := by decide +kernel
theorem dX0_latest_8 : decode cX0_latest 8 = .ok (.iadd, 1) := by decide +kernel
theorem dX0_latest_9 : decode cX0_latest 9 = .ok (.iconst 1, 1) := by decide +kernel
theorem dX0_latest_10 : decode cX0_latest 10 = .ok (.isub, 1) := by decide +kernel
theorem dX0_latest_11 : decode cX0_latest 11 = .ok (.bipush 6, 2) := by decide +kernel
theorem dX0_latest_13 : decode cX0_latest 13 = .ok (.irem, 1) := by decide +kernel
theorem dX0_latest_14 : decode cX0_latest 14 = .ok (.ireturn, 1) := by decide +kernel
theorem dX1_init_0 : decode cX1_init 0 = .ok (.aload_n 0, 1) := by decide +kernel
theorem dX1_init_1 : decode cX1_init 1 = .ok (.invokespecial 3, 3) := by decide +kernel
theorem dX1_init_4 : decode cX1_init 4 = .ok (.aload_n 0, 1) := by decide +kernel
theorem dX1_init_5 : decode cX1_init 5 = .ok (.bipush 18, 2) := by decide +kernel
theorem dX1_init_7 : decode cX1_init 7 = .ok (.newarray .int, 2) := by decide +kernel
theorem dX1_init_9 : decode cX1_init 9 = .ok (.putfield 9, 3) := by decide +kernel
theorem dX1_init_12 : decode cX1_init 12 = .ok (.aload_n 0, 1) := by decide +kernel
theorem dX1_init_13 : decode cX1_init 13 = .ok (.sipush 234, 3) := by decide +kernel
theorem dX1_init_16 : decode cX1_init 16 = .ok (.newarray .int, 2) := by decide +kernel
theorem dX1_init_18 : decode cX1_init 18 = .ok (.putfield 15, 3) := by decide +kernel
theorem dX1_init_21 : decode cX1_init 21 = .ok (.aload_n 0, 1) := by decide +kernel
theorem dX1_init_22 : decode cX1_init 22 = .ok (.bipush 18, 2) := by decide +kernel
theorem dX1_init_24 : decode cX1_init 24 = .ok (.newarray .int, 2) := by decide +kernel
theorem dX1_init_26 : decode cX1_init 26 = .ok (.putfield 18, 3) := by decide +kernel
theorem dX1_init_29 : decode cX1_init 29 = .ok (.aload_n 0, 1) := by decide +kernel
theorem dX1_init_30 : decode cX1_init 30 = .ok (.bipush 16, 2) := by decide +kernel
theorem dX1_init_32 : decode cX1_init 32 = .ok (.newarray .int, 2) := by decide +kernel
theorem dX1_init_34 : decode cX1_init 34 = .ok (.putfield 21, 3) := by decide +kernel
theorem dX1_init_37 : decode cX1_init 37 = .ok (.aload_n 0, 1) := by decide +kernel
theorem dX1_init_38 : decode cX1_init 38 = .ok (.bipush 16, 2) := by decide +kernel
theorem dX1_init_40 : decode cX1_init 40 = .ok (.newarray .int, 2) := by decide +kernel
theorem dX1_init_42 : decode cX1_init 42 = .ok (.putfield 24, 3) := by decide +kernel
theorem dX1_init_45 : decode cX1_init 45 = .ok (.aload_n 0, 1) := by decide +kernel
theorem dX1_init_46 : decode cX1_init 46 = .ok (.bipush 16, 2) := by decide +kernel
theorem dX1_init_48 : decode cX1_init 48 = .ok (.newarray .int, 2) := by decide +kernel
theorem dX1_init_50 : decode cX1_init 50 = .ok (.putfield 27, 3) := by decide +kernel
theorem dX1_init_53 : decode cX1_init 53 = .ok (.aload_n 0, 1) := by decide +kernel
theorem dX1_init_54 : decode cX1_init 54 = .ok (.bipush 16, 2) := by decide +kernel
theorem dX1_init_56 : decode cX1_init 56 = .ok (.newarray .int, 2) := by decide +kernel
theorem dX1_init_58 : decode cX1_init 58 = .ok (.putfield 30, 3) := by decide +kernel
theorem dX1_init_61 : decode cX1_init 61 = .ok (.aload_n 0, 1) := by decide +kernel
theorem dX1_init_62 : decode cX1_init 62 = .ok (.iconst 2, 1) := by decide +kernel
theorem dX1_init_63 : decode cX1_init 63 = .ok (.newarray .int, 2) := by decide +kernel
theorem dX1_init_65 : decode cX1_init 65 = .ok (.putfield 33, 3) := by decide +kernel
theorem dX1_init_68 : decode cX1_init 68 = .ok (.iconst 0, 1) := by decide +kernel
theorem dX1_init_69 : decode cX1_init 69 = .ok (.istore_n 1, 1) := by decide +kernel
theorem dX1_init_70 : decode cX1_init 70 = .ok (.iload_n 1, 1) := by decide +kernel
theorem dX1_init_71 : decode cX1_init 71 = .ok (.bipush 18, 2) := by decide +kernel
theorem dX1_init_73 : decode cX1_init 73 = .ok (.if_icmp .ge 26, 3) := by decide +kernel
theorem dX1_init_76 : decode cX1_init 76 = .ok (.aload_n 0, 1) := by decide +kernel
theorem dX1_init_77 : decode cX1_init 77 = .ok (.getfield 18, 3) := by decide +kernel
theorem dX1_init_80 : decode cX1_init 80 = .ok (.iload_n 1, 1) := by decide +kernel
theorem dX1_init_81 : decode cX1_init 81 = .ok (.iload_n 1, 1) := by decide +kernel
theorem dX1_init_82 : decode cX1_init 82 = .ok (.bipush 16, 2) := by decide +kernel
theorem dX1_init_84 : decode cX1_init 84 = .ok (.if_icmp .ge 7, 3) := by decide +kernel
theorem dX1_init_87 : decode cX1_init 87 = .ok (.iload_n 1, 1) := by decide +kernel
theorem dX1_init_88 : decode cX1_init 88 = .ok (.goto 4, 3) := by decide +kernel
theorem dX1_init_91 : decode cX1_init 91 = .ok (.iconst (-1), 1) := by decide +kernel
theorem dX1_init_92 : decode cX1_init 92 = .ok (.iastore, 1) := by decide +kernel
theorem dX1_init_93 : decode cX1_init 93 = .ok (.iinc 1 1, 3) := by decide +kernel
theorem dX1_init_96 : decode cX1_init 96 = .ok (.goto (-26), 3) := by decide +kernel
theorem dX1_init_99 : decode cX1_init 99 = .ok (.iconst 0, 1) := by decide +kernel
theorem dX1_init_100 : decode cX1_init 100 = .ok (.istore_n 1, 1) := by decide +kernel
theorem dX1_init_101 : decode cX1_init 101 = .ok (.iload_n 1, 1) := by decide +kernel
theorem dX1_init_102 : decode cX1_init 102 = .ok (.bipush 16, 2) := by decide +kernel
theorem dX1_init_104 : decode cX1_init 104 = .ok (.if_icmp .ge 16, 3) := by decide +kernel
theorem dX1_init_107 : decode cX1_init 107 = .ok (.aload_n 0, 1) := by decide +kernel
theorem dX1_init_108 : decode cX1_init 108 = .ok (.getfield 21, 3) := by decide +kernel
theorem dX1_init_111 : decode cX1_init 111 = .ok (.iload_n 1, 1) := by decide +kernel
theorem dX1_init_112 : decode cX1_init 112 = .ok (.iload_n 1, 1) := by decide +kernel
theorem dX1_init_113 : decode cX1_init 113 = .ok (.iastore, 1) := by decide +kernel
theorem dX1_init_114 : decode cX1_init 114 = .ok (.iinc 1 1, 3) := by decide +kernel
theorem dX1_init_117 : decode cX1_init 117 = .ok (.goto (-16), 3) := by decide +kernel
theorem dX1_init_120 : decode cX1_init 120 = .ok (.aload_n 0, 1) := by decide +kernel
theorem dX1_init_121 : decode cX1_init 121 = .ok (.getfield 33, 3) := by decide +kernel
theorem dX1_init_124 : decode cX1_init 124 = .ok (.iconst 0, 1) := by decide +kernel
theorem dX1_init_125 : decode cX1_init 125 = .ok (.bipush 20, 2) := by decide +kernel
theorem dX1_init_127 : decode cX1_init 127 = .ok (.iastore, 1) := by decide +kernel
theorem dX1_init_128 : decode cX1_init 128 = .ok (.return_, 1) := by decide +kernel
theorem dX1_copyFrom_0 : decode cX1_copyFrom 0 = .ok (.aload_n 1, 1) := by decide +kernel
theorem dX1_copyFrom_1 : decode cX1_copyFrom 1 = .ok (.getfield 9, 3) := by decide +kernel
theorem dX1_copyFrom_4 : decode cX1_copyFrom 4 = .ok (.iconst 0, 1) := by decide +kernel
theorem dX1_copyFrom_5 : decode cX1_copyFrom 5 = .ok (.aload_n 0, 1) := by decide +kernel
theorem dX1_copyFrom_6 : decode cX1_copyFrom 6 = .ok (.getfield 9, 3) := by decide +kernel
theorem dX1_copyFrom_9 : decode cX1_copyFrom 9 = .ok (.iconst 0, 1) := by decide +kernel
theorem dX1_copyFrom_10 : decode cX1_copyFrom 10 = .ok (.bipush 18, 2) := by decide +kernel
theorem dX1_copyFrom_12 : decode cX1_copyFrom 12 = .ok (.invokestatic 36, 3) := by decide +kernel
theorem dX1_copyFrom_15 : decode cX1_copyFrom 15 = .ok (.aload_n 1, 1) := by decide +kernel
theorem dX1_copyFrom_16 : decode cX1_copyFrom 16 = .ok (.getfield 15, 3) := by decide +kernel
theorem dX1_copyFrom_19 : decode cX1_copyFrom 19 = .ok (.iconst 0, 1) := by decide +kernel
theorem dX1_copyFrom_20 : decode cX1_copyFrom 20 = .ok (.aload_n 0, 1) := by decide +kernel
theorem dX1_copyFrom_21 : decode cX1_copyFrom 21 = .ok (.getfield 15, 3) := by decide +kernel
theorem dX1_copyFrom_24 : decode cX1_copyFrom 24 = .ok (.iconst 0, 1) := by decide +kernel
theorem dX1_copyFrom_25 : decode cX1_copyFrom 25 = .ok (.sipush 234, 3) := by decide +kernel
theorem dX1_copyFrom_28 : decode cX1_copyFrom 28 = .ok (.invokestatic 36, 3) := by decide +kernel
theorem dX1_copyFrom_31 : decode cX1_copyFrom 31 = .ok (.aload_n 1, 1) := by decide +kernel
theorem dX1_copyFrom_32 : decode cX1_copyFrom 32 = .ok (.getfield 18, 3) := by decide +kernel
theorem dX1_copyFrom_35 : decode cX1_copyFrom 35 = .ok (.iconst 0, 1) := by decide +kernel
theorem dX1_copyFrom_36 : decode cX1_copyFrom 36 = .ok (.aload_n 0, 1) := by decide +kernel
theorem dX1_copyFrom_37 : decode cX1_copyFrom 37 = .ok (.getfield 18, 3) := by decide +kernel
theorem dX1_copyFrom_40 : decode cX1_copyFrom 40 = .ok (.iconst 0, 1) := by decide +kernel
theorem dX1_copyFrom_41 : decode cX1_copyFrom 41 = .ok (.bipush 18, 2) := by decide +kernel
theorem dX1_copyFrom_43 : decode cX1_copyFrom 43 = .ok (.invokestatic 36, 3) := by decide +kernel
theorem dX1_copyFrom_46 : decode cX1_copyFrom 46 = .ok (.aload_n 1, 1) := by decide +kernel
theorem dX1_copyFrom_47 : decode cX1_copyFrom 47 = .ok (.getfield 21, 3) := by decide +kernel
theorem dX1_copyFrom_50 : decode cX1_copyFrom 50 = .ok (.iconst 0, 1) := by decide +kernel
theorem dX1_copyFrom_51 : decode cX1_copyFrom 51 = .ok (.aload_n 0, 1) := by decide +kernel
theorem dX1_copyFrom_52 : decode cX1_copyFrom 52 = .ok (.getfield 21, 3) := by decide +kernel
theorem dX1_copyFrom_55 : decode cX1_copyFrom 55 = .ok (.iconst 0, 1) := by decide +kernel
theorem dX1_copyFrom_56 : decode cX1_copyFrom 56 = .ok (.bipush 16, 2) := by decide +kernel
theorem dX1_copyFrom_58 : decode cX1_copyFrom 58 = .ok (.invokestatic 36, 3) := by decide +kernel
theorem dX1_copyFrom_61 : decode cX1_copyFrom 61 = .ok (.aload_n 1, 1) := by decide +kernel
theorem dX1_copyFrom_62 : decode cX1_copyFrom 62 = .ok (.getfield 24, 3) := by decide +kernel
theorem dX1_copyFrom_65 : decode cX1_copyFrom 65 = .ok (.iconst 0, 1) := by decide +kernel
theorem dX1_copyFrom_66 : decode cX1_copyFrom 66 = .ok (.aload_n 0, 1) := by decide +kernel
theorem dX1_copyFrom_67 : decode cX1_copyFrom 67 = .ok (.getfield 24, 3) := by decide +kernel
theorem dX1_copyFrom_70 : decode cX1_copyFrom 70 = .ok (.iconst 0, 1) := by decide +kernel
theorem dX1_copyFrom_71 : decode cX1_copyFrom 71 = .ok (.bipush 16, 2) := by decide +kernel
theorem dX1_copyFrom_73 : decode cX1_copyFrom 73 = .ok (.invokestatic 36, 3) := by decide +kernel
theorem dX1_copyFrom_76 : decode cX1_copyFrom 76 = .ok (.aload_n 1, 1) := by decide +kernel
theorem dX1_copyFrom_77 : decode cX1_copyFrom 77 = .ok (.getfield 27, 3) := by decide +kernel
theorem dX1_copyFrom_80 : decode cX1_copyFrom 80 = .ok (.iconst 0, 1) := by decide +kernel
theorem dX1_copyFrom_81 : decode cX1_copyFrom 81 = .ok (.aload_n 0, 1) := by decide +kernel
theorem dX1_copyFrom_82 : decode cX1_copyFrom 82 = .ok (.getfield 27, 3) := by decide +kernel
theorem dX1_copyFrom_85 : decode cX1_copyFrom 85 = .ok (.iconst 0, 1) := by decide +kernel
theorem dX1_copyFrom_86 : decode cX1_copyFrom 86 = .ok (.bipush 16, 2) := by decide +kernel
theorem dX1_copyFrom_88 : decode cX1_copyFrom 88 = .ok (.invokestatic 36, 3) := by decide +kernel
theorem dX1_copyFrom_91 : decode cX1_copyFrom 91 = .ok (.aload_n 1, 1) := by decide +kernel
theorem dX1_copyFrom_92 : decode cX1_copyFrom 92 = .ok (.getfield 30, 3) := by decide +kernel
theorem dX1_copyFrom_95 : decode cX1_copyFrom 95 = .ok (.iconst 0, 1) := by decide +kernel
theorem dX1_copyFrom_96 : decode cX1_copyFrom 96 = .ok (.aload_n 0, 1) := by decide +kernel
theorem dX1_copyFrom_97 : decode cX1_copyFrom 97 = .ok (.getfield 30, 3) := by decide +kernel
theorem dX1_copyFrom_100 : decode cX1_copyFrom 100 = .ok (.iconst 0, 1) := by decide +kernel
theorem dX1_copyFrom_101 : decode cX1_copyFrom 101 = .ok (.bipush 16, 2) := by decide +kernel
theorem dX1_copyFrom_103 : decode cX1_copyFrom 103 = .ok (.invokestatic 36, 3) := by decide +kernel
theorem dX1_copyFrom_106 : decode cX1_copyFrom 106 = .ok (.aload_n 1, 1) := by decide +kernel
theorem dX1_copyFrom_107 : decode cX1_copyFrom 107 = .ok (.getfield 33, 3) := by decide +kernel
theorem dX1_copyFrom_110 : decode cX1_copyFrom 110 = .ok (.iconst 0, 1) := by decide +kernel
theorem dX1_copyFrom_111 : decode cX1_copyFrom 111 = .ok (.aload_n 0, 1) := by decide +kernel
theorem dX1_copyFrom_112 : decode cX1_copyFrom 112 = .ok (.getfield 33, 3) := by decide +kernel
theorem dX1_copyFrom_115 : decode cX1_copyFrom 115 = .ok (.iconst 0, 1) := by decide +kernel
theorem dX1_copyFrom_116 : decode cX1_copyFrom 116 = .ok (.iconst 2, 1) := by decide +kernel
theorem dX1_copyFrom_117 : decode cX1_copyFrom 117 = .ok (.invokestatic 36, 3) := by decide +kernel
theorem dX1_copyFrom_120 : decode cX1_copyFrom 120 = .ok (.aload_n 0, 1) := by decide +kernel
theorem dX1_copyFrom_121 : decode cX1_copyFrom 121 = .ok (.aload_n 1, 1) := by decide +kernel
theorem dX1_copyFrom_122 : decode cX1_copyFrom 122 = .ok (.getfield 42, 3) := by decide +kernel
theorem dX1_copyFrom_125 : decode cX1_copyFrom 125 = .ok (.putfield 42, 3) := by decide +kernel
theorem dX1_copyFrom_128 : decode cX1_copyFrom 128 = .ok (.aload_n 0, 1) := by decide +kernel
theorem dX1_copyFrom_129 : decode cX1_copyFrom 129 = .ok (.aload_n 1, 1) := by decide +kernel
theorem dX1_copyFrom_130 : decode cX1_copyFrom 130 = .ok (.getfield 46, 3) := by decide +kernel
theorem dX1_copyFrom_133 : decode cX1_copyFrom 133 = .ok (.putfield 46, 3) := by decide +kernel
theorem dX1_copyFrom_136 : decode cX1_copyFrom 136 = .ok (.aload_n 0, 1) := by decide +kernel
theorem dX1_copyFrom_137 : decode cX1_copyFrom 137 = .ok (.aload_n 1, 1) := by decide +kernel
theorem dX1_copyFrom_138 : decode cX1_copyFrom 138 = .ok (.getfield 49, 3) := by decide +kernel
theorem dX1_copyFrom_141 : decode cX1_copyFrom 141 = .ok (.putfield 49, 3) := by decide +kernel
theorem dX1_copyFrom_144 : decode cX1_copyFrom 144 = .ok (.aload_n 0, 1) := by decide +kernel
theorem dX1_copyFrom_145 : decode cX1_copyFrom 145 = .ok (.aload_n 1, 1) := by decide +kernel
theorem dX1_copyFrom_146 : decode cX1_copyFrom 146 = .ok (.getfield 52, 3) := by decide +kernel
theorem dX1_copyFrom_149 : decode cX1_copyFrom 149 = .ok (.putfield 52, 3) := by decide +kernel
theorem dX1_copyFrom_152 : decode cX1_copyFrom 152 = .ok (.aload_n 0, 1) := by decide +kernel
theorem dX1_copyFrom_153 : decode cX1_copyFrom 153 = .ok (.aload_n 1, 1) := by decide +kernel
theorem dX1_copyFrom_154 : decode cX1_copyFrom 154 = .ok (.getfield 55, 3) := by decide +kernel
theorem dX1_copyFrom_157 : decode cX1_copyFrom 157 = .ok (.putfield 55, 3) := by decide +kernel
theorem dX1_copyFrom_160 : decode cX1_copyFrom 160 = .ok (.return_, 1) := by decide +kernel
theorem dX1_wornAt_0 : decode cX1_wornAt 0 = .ok (.aload_n 0, 1) := by decide +kernel
theorem dX1_wornAt_1 : decode cX1_wornAt 1 = .ok (.getfield 15, 3) := by decide +kernel
theorem dX1_wornAt_4 : decode cX1_wornAt 4 = .ok (.iload_n 1, 1) := by decide +kernel
theorem dX1_wornAt_5 : decode cX1_wornAt 5 = .ok (.bipush 13, 2) := by decide +kernel
theorem dX1_wornAt_7 : decode cX1_wornAt 7 = .ok (.imul, 1) := by decide +kernel
theorem dX1_wornAt_8 : decode cX1_wornAt 8 = .ok (.iload_n 2, 1) := by decide +kernel
theorem dX1_wornAt_9 : decode cX1_wornAt 9 = .ok (.iadd, 1) := by decide +kernel
theorem dX1_wornAt_10 : decode cX1_wornAt 10 = .ok (.iaload, 1) := by decide +kernel
theorem dX1_wornAt_11 : decode cX1_wornAt 11 = .ok (.ireturn, 1) := by decide +kernel
theorem dX1_wornTogether_0 : decode cX1_wornTogether 0 = .ok (.iconst 0, 1) := by decide +kernel
theorem dX1_wornTogether_1 : decode cX1_wornTogether 1 = .ok (.istore_n 2, 1) := by decide +kernel
theorem dX1_wornTogether_2 : decode cX1_wornTogether 2 = .ok (.iload_n 1, 1) := by decide +kernel
theorem dX1_wornTogether_3 : decode cX1_wornTogether 3 = .ok (.bipush 13, 2) := by decide +kernel
theorem dX1_wornTogether_5 : decode cX1_wornTogether 5 = .ok (.imul, 1) := by decide +kernel
theorem dX1_wornTogether_6 : decode cX1_wornTogether 6 = .ok (.istore_n 3, 1) := by decide +kernel
theorem dX1_wornTogether_7 : decode cX1_wornTogether 7 = .ok (.iconst 0, 1) := by decide +kernel
theorem dX1_wornTogether_8 : decode cX1_wornTogether 8 = .ok (.istore 4, 2) := by decide +kernel
theorem dX1_wornTogether_10 : decode cX1_wornTogether 10 = .ok (.iload 4, 2) := by decide +kernel
theorem dX1_wornTogether_12 : decode cX1_wornTogether 12 = .ok (.bipush 13, 2) := by decide +kernel
theorem dX1_wornTogether_14 : decode cX1_wornTogether 14 = .ok (.if_icmp .ge 21, 3) := by decide +kernel
theorem dX1_wornTogether_17 : decode cX1_wornTogether 17 = .ok (.iload_n 2, 1) := by decide +kernel
theorem dX1_wornTogether_18 : decode cX1_wornTogether 18 = .ok (.aload_n 0, 1) := by decide +kernel
theorem dX1_wornTogether_19 : decode cX1_wornTogether 19 = .ok (.getfield 15, 3) := by decide +kernel
theorem dX1_wornTogether_22 : decode cX1_wornTogether 22 = .ok (.iload_n 3, 1) := by decide +kernel
theorem dX1_wornTogether_23 : decode cX1_wornTogether 23 = .ok (.iload 4, 2) := by decide +kernel
theorem dX1_wornTogether_25 : decode cX1_wornTogether 25 = .ok (.iadd, 1) := by decide +kernel
theorem dX1_wornTogether_26 : decode cX1_wornTogether 26 = .ok (.iaload, 1) := by decide +kernel
theorem dX1_wornTogether_27 : decode cX1_wornTogether 27 = .ok (.iadd, 1) := by decide +kernel
theorem dX1_wornTogether_28 : decode cX1_wornTogether 28 = .ok (.istore_n 2, 1) := by decide +kernel
theorem dX1_wornTogether_29 : decode cX1_wornTogether 29 = .ok (.iinc 4 1, 3) := by decide +kernel
theorem dX1_wornTogether_32 : decode cX1_wornTogether 32 = .ok (.goto (-22), 3) := by decide +kernel
theorem dX1_wornTogether_35 : decode cX1_wornTogether 35 = .ok (.iload_n 2, 1) := by decide +kernel
theorem dX1_wornTogether_36 : decode cX1_wornTogether 36 = .ok (.ireturn, 1) := by decide +kernel
theorem dX1_mostWorn_0 : decode cX1_mostWorn 0 = .ok (.iconst 0, 1) := by decide +kernel
theorem dX1_mostWorn_1 : decode cX1_mostWorn 1 = .ok (.istore_n 2, 1) := by decide +kernel
theorem dX1_mostWorn_2 : decode cX1_mostWorn 2 = .ok (.iload_n 1, 1) := by decide +kernel
theorem dX1_mostWorn_3 : decode cX1_mostWorn 3 = .ok (.bipush 13, 2) := by decide +kernel
theorem dX1_mostWorn_5 : decode cX1_mostWorn 5 = .ok (.imul, 1) := by decide +kernel
theorem dX1_mostWorn_6 : decode cX1_mostWorn 6 = .ok (.istore_n 3, 1) := by decide +kernel
theorem dX1_mostWorn_7 : decode cX1_mostWorn 7 = .ok (.iconst 0, 1) := by decide +kernel
theorem dX1_mostWorn_8 : decode cX1_mostWorn 8 = .ok (.istore 4, 2) := by decide +kernel
theorem dX1_mostWorn_10 : decode cX1_mostWorn 10 = .ok (.iload 4, 2) := by decide +kernel
theorem dX1_mostWorn_12 : decode cX1_mostWorn 12 = .ok (.bipush 13, 2) := by decide +kernel
theorem dX1_mostWorn_14 : decode cX1_mostWorn 14 = .ok (.if_icmp .ge 23, 3) := by decide +kernel
theorem dX1_mostWorn_17 : decode cX1_mostWorn 17 = .ok (.iload_n 2, 1) := by decide +kernel
theorem dX1_mostWorn_18 : decode cX1_mostWorn 18 = .ok (.aload_n 0, 1) := by decide +kernel
theorem dX1_mostWorn_19 : decode cX1_mostWorn 19 = .ok (.getfield 15, 3) := by decide +kernel
theorem dX1_mostWorn_22 : decode cX1_mostWorn 22 = .ok (.iload_n 3, 1) := by decide +kernel
theorem dX1_mostWorn_23 : decode cX1_mostWorn 23 = .ok (.iload 4, 2) := by decide +kernel
theorem dX1_mostWorn_25 : decode cX1_mostWorn 25 = .ok (.iadd, 1) := by decide +kernel
theorem dX1_mostWorn_26 : decode cX1_mostWorn 26 = .ok (.iaload, 1) := by decide +kernel
theorem dX1_mostWorn_27 : decode cX1_mostWorn 27 = .ok (.invokestatic 58, 3) := by decide +kernel
theorem dX1_mostWorn_30 : decode cX1_mostWorn 30 = .ok (.istore_n 2, 1) := by decide +kernel
theorem dX1_mostWorn_31 : decode cX1_mostWorn 31 = .ok (.iinc 4 1, 3) := by decide +kernel
theorem dX1_mostWorn_34 : decode cX1_mostWorn 34 = .ok (.goto (-24), 3) := by decide +kernel
theorem dX1_mostWorn_37 : decode cX1_mostWorn 37 = .ok (.iload_n 2, 1) := by decide +kernel
theorem dX1_mostWorn_38 : decode cX1_mostWorn 38 = .ok (.ireturn, 1) := by decide +kernel
theorem dX1_stuckIn_0 : decode cX1_stuckIn 0 = .ok (.iconst 0, 1) := by decide +kernel
theorem dX1_stuckIn_1 : decode cX1_stuckIn 1 = .ok (.istore_n 2, 1) := by decide +kernel
theorem dX1_stuckIn_2 : decode cX1_stuckIn 2 = .ok (.iload_n 1, 1) := by decide +kernel
theorem dX1_stuckIn_3 : decode cX1_stuckIn 3 = .ok (.bipush 13, 2) := by decide +kernel
theorem dX1_stuckIn_5 : decode cX1_stuckIn 5 = .ok (.imul, 1) := by decide +kernel
theorem dX1_stuckIn_6 : decode cX1_stuckIn 6 = .ok (.istore_n 3, 1) := by decide +kernel
theorem dX1_stuckIn_7 : decode cX1_stuckIn 7 = .ok (.iconst 0, 1) := by decide +kernel
theorem dX1_stuckIn_8 : decode cX1_stuckIn 8 = .ok (.istore 4, 2) := by decide +kernel
theorem dX1_stuckIn_10 : decode cX1_stuckIn 10 = .ok (.iload 4, 2) := by decide +kernel
theorem dX1_stuckIn_12 : decode cX1_stuckIn 12 = .ok (.bipush 13, 2) := by decide +kernel
theorem dX1_stuckIn_14 : decode cX1_stuckIn 14 = .ok (.if_icmp .ge 34, 3) := by decide +kernel
theorem dX1_stuckIn_17 : decode cX1_stuckIn 17 = .ok (.aload_n 0, 1) := by decide +kernel
theorem dX1_stuckIn_18 : decode cX1_stuckIn 18 = .ok (.getfield 15, 3) := by decide +kernel
theorem dX1_stuckIn_21 : decode cX1_stuckIn 21 = .ok (.iload_n 3, 1) := by decide +kernel
theorem dX1_stuckIn_22 : decode cX1_stuckIn 22 = .ok (.iload 4, 2) := by decide +kernel
theorem dX1_stuckIn_24 : decode cX1_stuckIn 24 = .ok (.iadd, 1) := by decide +kernel
theorem dX1_stuckIn_25 : decode cX1_stuckIn 25 = .ok (.iaload, 1) := by decide +kernel
theorem dX1_stuckIn_26 : decode cX1_stuckIn 26 = .ok (.aload_n 0, 1) := by decide +kernel
theorem dX1_stuckIn_27 : decode cX1_stuckIn 27 = .ok (.getfield 33, 3) := by decide +kernel
theorem dX1_stuckIn_30 : decode cX1_stuckIn 30 = .ok (.iconst 0, 1) := by decide +kernel
theorem dX1_stuckIn_31 : decode cX1_stuckIn 31 = .ok (.iaload, 1) := by decide +kernel
theorem dX1_stuckIn_32 : decode cX1_stuckIn 32 = .ok (.if_icmp .lt 10, 3) := by decide +kernel
theorem dX1_stuckIn_35 : decode cX1_stuckIn 35 = .ok (.iload_n 2, 1) := by decide +kernel
theorem dX1_stuckIn_36 : decode cX1_stuckIn 36 = .ok (.iconst 1, 1) := by decide +kernel
theorem dX1_stuckIn_37 : decode cX1_stuckIn 37 = .ok (.iload 4, 2) := by decide +kernel
theorem dX1_stuckIn_39 : decode cX1_stuckIn 39 = .ok (.ishl, 1) := by decide +kernel
theorem dX1_stuckIn_40 : decode cX1_stuckIn 40 = .ok (.ior, 1) := by decide +kernel
theorem dX1_stuckIn_41 : decode cX1_stuckIn 41 = .ok (.istore_n 2, 1) := by decide +kernel
theorem dX1_stuckIn_42 : decode cX1_stuckIn 42 = .ok (.iinc 4 1, 3) := by decide +kernel
theorem dX1_stuckIn_45 : decode cX1_stuckIn 45 = .ok (.goto (-35), 3) := by decide +kernel
theorem dX1_stuckIn_48 : decode cX1_stuckIn 48 = .ok (.iload_n 2, 1) := by decide +kernel
theorem dX1_stuckIn_49 : decode cX1_stuckIn 49 = .ok (.ireturn, 1) := by decide +kernel
set_option maxRecDepth 20000 in
theorem ggX1_stuckCells_X1_stuckIn : GoodIn wsX1_stuckCells wsX1_stuckIn := goodIn_r _ [5, 6, 7, 15, 16, 17, 18, 19, 20, 21, 22, 23, 24, 25, 26, 27] (by decide +kernel) (by decide +kernel)
set_option maxRecDepth 20000 in
theorem gX1_stuckCells_X1_stuckIn : GoodIn wsX1_stuckCells (wsV RX1 64 RX1 yX1_stuckIn wsX1_stuckIn) := goodIn_app (goodIn_of _ (by decide +kernel)) ggX1_stuckCells_X1_stuckIn
set_option maxRecDepth 20000 in
theorem ggX1_stuckCells_J6_bitCount_0f7a4 : GoodIn wsX1_stuckCells wsJ6_bitCount_0f7a4 := goodIn_r _ [11, 12, 13, 14] (by decide +kernel) (by decide +kernel)
set_option maxRecDepth 20000 in
theorem gX1_stuckCells_J6_bitCount_0f7a4 : GoodIn wsX1_stuckCells (va_wsS RX1 68 yJ6_bitCount_0f7a4 wsJ6_bitCount_0f7a4) := goodIn_app (goodIn_of _ (by decide +kernel)) ggX1_stuckCells_J6_bitCount_0f7a4
theorem dX1_stuckCells_0 : decode cX1_stuckCells 0 = .ok (.iconst 0, 1) := by decide +kernel
theorem dX1_stuckCells_1 : decode cX1_stuckCells 1 = .ok (.istore_n 1, 1) := by decide +kernel
theorem dX1_stuckCells_2 : decode cX1_stuckCells 2 = .ok (.iconst 0, 1) := by decide +kernel
theorem dX1_stuckCells_3 : decode cX1_stuckCells 3 = .ok (.istore_n 2, 1) := by decide +kernel
theorem dX1_stuckCells_4 : decode cX1_stuckCells 4 = .ok (.iload_n 2, 1) := by decide +kernel
theorem dX1_stuckCells_5 : decode cX1_stuckCells 5 = .ok (.bipush 18, 2) := by decide +kernel
theorem dX1_stuckCells_7 : decode cX1_stuckCells 7 = .ok (.if_icmp .ge 20, 3) := by decide +kernel
theorem dX1_stuckCells_10 : decode cX1_stuckCells 10 = .ok (.iload_n 1, 1) := by decide +kernel
theorem dX1_stuckCells_11 : decode cX1_stuckCells 11 = .ok (.aload_n 0, 1) := by decide +kernel
theorem dX1_stuckCells_12 : decode cX1_stuckCells 12 = .ok (.iload_n 2, 1) := by decide +kernel
theorem dX1_stuckCells_13 : decode cX1_stuckCells 13 = .ok (.invokevirtual 64, 3) := by decide +kernel
theorem dX1_stuckCells_16 : decode cX1_stuckCells 16 = .ok (.invokestatic 68, 3) := by decide +kernel
theorem dX1_stuckCells_19 : decode cX1_stuckCells 19 = .ok (.iadd, 1) := by decide +kernel
theorem dX1_stuckCells_20 : decode cX1_stuckCells 20 = .ok (.istore_n 1, 1) := by decide +kernel
theorem dX1_stuckCells_21 : decode cX1_stuckCells 21 = .ok (.iinc 2 1, 3) := by decide +kernel
theorem dX1_stuckCells_24 : decode cX1_stuckCells 24 = .ok (.goto (-20), 3) := by decide +kernel
theorem dX1_stuckCells_27 : decode cX1_stuckCells 27 = .ok (.iload_n 1, 1) := by decide +kernel
theorem dX1_stuckCells_28 : decode cX1_stuckCells 28 = .ok (.ireturn, 1) := by decide +kernel
theorem dX1_numberIn_0 : decode cX1_numberIn 0 = .ok (.aload_n 0, 1) := by decide +kernel
theorem dX1_numberIn_1 : decode cX1_numberIn 1 = .ok (.getfield 9, 3) := by decide +kernel
theorem dX1_numberIn_4 : decode cX1_numberIn 4 = .ok (.iload_n 1, 1) := by decide +kernel
theorem dX1_numberIn_5 : decode cX1_numberIn 5 = .ok (.iaload, 1) := by decide +kernel
theorem dX1_numberIn_6 : decode cX1_numberIn 6 = .ok (.istore_n 2, 1) := by decide +kernel
theorem dX1_numberIn_7 : decode cX1_numberIn 7 = .ok (.iload_n 2, 1) := by decide +kernel
theorem dX1_numberIn_8 : decode cX1_numberIn 8 = .ok (.sipush 4096, 3) := by decide +kernel
theorem dX1_numberIn_11 : decode cX1_numberIn 11 = .ok (.iand, 1) := by decide +kernel
theorem dX1_numberIn_12 : decode cX1_numberIn 12 = .ok (.ifCond .ne 7, 3) := by decide +kernel
theorem dX1_numberIn_15 : decode cX1_numberIn 15 = .ok (.iload_n 2, 1) := by decide +kernel
theorem dX1_numberIn_16 : decode cX1_numberIn 16 = .ok (.goto 10, 3) := by decide +kernel
theorem dX1_numberIn_19 : decode cX1_numberIn 19 = .ok (.iload_n 2, 1) := by decide +kernel
theorem dX1_numberIn_20 : decode cX1_numberIn 20 = .ok (.iconst (-1), 1) := by decide +kernel
theorem dX1_numberIn_21 : decode cX1_numberIn 21 = .ok (.ixor, 1) := by decide +kernel
theorem dX1_numberIn_22 : decode cX1_numberIn 22 = .ok (.sipush 4095, 3) := by decide +kernel
theorem dX1_numberIn_25 : decode cX1_numberIn 25 = .ok (.iand, 1) := by decide +kernel
theorem dX1_numberIn_26 : decode cX1_numberIn 26 = .ok (.ireturn, 1) := by decide +kernel
set_option maxRecDepth 20000 in
theorem ggX1_numberOf_X1_numberIn : GoodIn wsX1_numberOf wsX1_numberIn := goodIn_r _ [6, 7, 8, 9, 10, 11, 12, 13, 14, 15, 16, 17, 18, 19, 20] (by decide +kernel) (by decide +kernel)
set_option maxRecDepth 20000 in
theorem gX1_numberOf_X1_numberIn : GoodIn wsX1_numberOf (wsV RX1 73 RX1 yX1_numberIn wsX1_numberIn) := goodIn_app (goodIn_of _ (by decide +kernel)) ggX1_numberOf_X1_numberIn
theorem dX1_numberOf_0 : decode cX1_numberOf 0 = .ok (.aload_n 0, 1) := by decide +kernel
theorem dX1_numberOf_1 : decode cX1_numberOf 1 = .ok (.aload_n 0, 1) := by decide +kernel
theorem dX1_numberOf_2 : decode cX1_numberOf 2 = .ok (.getfield 21, 3) := by decide +kernel
theorem dX1_numberOf_5 : decode cX1_numberOf 5 = .ok (.iload_n 1, 1) := by decide +kernel
theorem dX1_numberOf_6 : decode cX1_numberOf 6 = .ok (.iaload, 1) := by decide +kernel
theorem dX1_numberOf_7 : decode cX1_numberOf 7 = .ok (.invokevirtual 73, 3) := by decide +kernel
theorem dX1_numberOf_10 : decode cX1_numberOf 10 = .ok (.ireturn, 1) := by decide +kernel
set_option maxRecDepth 20000 in
theorem ggX1_sumOfWords_X1_numberOf : GoodIn wsX1_sumOfWords wsX1_numberOf := goodIn_r _ [5, 6, 7, 8, 9, 4, 10, 11, 12, 13, 14, 15, 16, 17, 18, 19, 20, 21, 22, 23, 24] (by decide +kernel) (by decide +kernel)
set_option maxRecDepth 20000 in
theorem gX1_sumOfWords_X1_numberOf : GoodIn wsX1_sumOfWords (wsV RX1 76 RX1 yX1_numberOf wsX1_numberOf) := goodIn_app (goodIn_of _ (by decide +kernel)) ggX1_sumOfWords_X1_numberOf
theorem dX1_sumOfWords_0 : decode cX1_sumOfWords 0 = .ok (.iconst 0, 1) := by decide +kernel
theorem dX1_sumOfWords_1 : decode cX1_sumOfWords 1 = .ok (.istore_n 1, 1) := by decide +kernel
theorem dX1_sumOfWords_2 : decode cX1_sumOfWords 2 = .ok (.iconst 0, 1) := by decide +kernel
theorem dX1_sumOfWords_3 : decode cX1_sumOfWords 3 = .ok (.istore_n 2, 1) := by decide +kernel
theorem dX1_sumOfWords_4 : decode cX1_sumOfWords 4 = .ok (.iload_n 2, 1) := by decide +kernel
theorem dX1_sumOfWords_5 : decode cX1_sumOfWords 5 = .ok (.bipush 16, 2) := by decide +kernel
theorem dX1_sumOfWords_7 : decode cX1_sumOfWords 7 = .ok (.if_icmp .ge 17, 3) := by decide +kernel
theorem dX1_sumOfWords_10 : decode cX1_sumOfWords 10 = .ok (.iload_n 1, 1) := by decide +kernel
theorem dX1_sumOfWords_11 : decode cX1_sumOfWords 11 = .ok (.aload_n 0, 1) := by decide +kernel
theorem dX1_sumOfWords_12 : decode cX1_sumOfWords 12 = .ok (.iload_n 2, 1) := by decide +kernel
theorem dX1_sumOfWords_13 : decode cX1_sumOfWords 13 = .ok (.invokevirtual 76, 3) := by decide +kernel
theorem dX1_sumOfWords_16 : decode cX1_sumOfWords 16 = .ok (.iadd, 1) := by decide +kernel
theorem dX1_sumOfWords_17 : decode cX1_sumOfWords 17 = .ok (.istore_n 1, 1) := by decide +kernel
theorem dX1_sumOfWords_18 : decode cX1_sumOfWords 18 = .ok (.iinc 2 1, 3) := by decide +kernel
theorem dX1_sumOfWords_21 : decode cX1_sumOfWords 21 = .ok (.goto (-17), 3) := by decide +kernel
theorem dX1_sumOfWords_24 : decode cX1_sumOfWords 24 = .ok (.iload_n 1, 1) := by decide +kernel
theorem dX1_sumOfWords_25 : decode cX1_sumOfWords 25 = .ok (.ireturn, 1) := by decide +kernel
theorem dX1_isHot_0 : decode cX1_isHot 0 = .ok (.aload_n 0, 1) := by decide +kernel
theorem dX1_isHot_1 : decode cX1_isHot 1 = .ok (.getfield 33, 3) := by decide +kernel
theorem dX1_isHot_4 : decode cX1_isHot 4 = .ok (.iconst 1, 1) := by decide +kernel
theorem dX1_isHot_5 : decode cX1_isHot 5 = .ok (.iaload, 1) := by decide +kernel
theorem dX1_isHot_6 : decode cX1_isHot 6 = .ok (.ifCond .le 22, 3) := by decide +kernel
theorem dX1_isHot_9 : decode cX1_isHot 9 = .ok (.aload_n 0, 1) := by decide +kernel
theorem dX1_isHot_10 : decode cX1_isHot 10 = .ok (.getfield 24, 3) := by decide +kernel
theorem dX1_isHot_13 : decode cX1_isHot 13 = .ok (.iload_n 1, 1) := by decide +kernel
theorem dX1_isHot_14 : decode cX1_isHot 14 = .ok (.iaload, 1) := by decide +kernel
theorem dX1_isHot_15 : decode cX1_isHot 15 = .ok (.aload_n 0, 1) := by decide +kernel
theorem dX1_isHot_16 : decode cX1_isHot 16 = .ok (.getfield 33, 3) := by decide +kernel
theorem dX1_isHot_19 : decode cX1_isHot 19 = .ok (.iconst 1, 1) := by decide +kernel
theorem dX1_isHot_20 : decode cX1_isHot 20 = .ok (.iaload, 1) := by decide +kernel
theorem dX1_isHot_21 : decode cX1_isHot 21 = .ok (.if_icmp .lt 7, 3) := by decide +kernel
theorem dX1_isHot_24 : decode cX1_isHot 24 = .ok (.iconst 1, 1) := by decide +kernel
theorem dX1_isHot_25 : decode cX1_isHot 25 = .ok (.goto 4, 3) := by decide +kernel
theorem dX1_isHot_28 : decode cX1_isHot 28 = .ok (.iconst 0, 1) := by decide +kernel
theorem dX1_isHot_29 : decode cX1_isHot 29 = .ok (.ireturn, 1) := by decide +kernel
set_option maxRecDepth 20000 in
theorem ggX1_hotWords_X1_isHot : GoodIn wsX1_hotWords wsX1_isHot := goodIn_r _ [5, 6, 7, 8, 9, 10, 11, 12, 13, 14, 15, 16, 17, 18, 19, 20] (by decide +kernel) (by decide +kernel)
set_option maxRecDepth 20000 in
theorem gX1_hotWords_X1_isHot : GoodIn wsX1_hotWords (wsV RX1 79 RX1 yX1_isHot wsX1_isHot) := goodIn_app (goodIn_of _ (by decide +kernel)) ggX1_hotWords_X1_isHot
theorem dX1_hotWords_0 : decode cX1_hotWords 0 = .ok (.iconst 0, 1) := by decide +kernel
theorem dX1_hotWords_1 : decode cX1_hotWords 1 = .ok (.istore_n 1, 1) := by decide +kernel
theorem dX1_hotWords_2 : decode cX1_hotWords 2 = .ok (.iconst 0, 1) := by decide +kernel
theorem dX1_hotWords_3 : decode cX1_hotWords 3 = .ok (.istore_n 2, 1) := by decide +kernel
theorem dX1_hotWords_4 : decode cX1_hotWords 4 = .ok (.iload_n 2, 1) := by decide +kernel
theorem dX1_hotWords_5 : decode cX1_hotWords 5 = .ok (.bipush 16, 2) := by decide +kernel
theorem dX1_hotWords_7 : decode cX1_hotWords 7 = .ok (.if_icmp .ge 20, 3) := by decide +kernel
theorem dX1_hotWords_10 : decode cX1_hotWords 10 = .ok (.aload_n 0, 1) := by decide +kernel
theorem dX1_hotWords_11 : decode cX1_hotWords 11 = .ok (.iload_n 2, 1) := by decide +kernel
theorem dX1_hotWords_12 : decode cX1_hotWords 12 = .ok (.invokevirtual 79, 3) := by decide +kernel
theorem dX1_hotWords_15 : decode cX1_hotWords 15 = .ok (.ifCond .eq 6, 3) := by decide +kernel
theorem dX1_hotWords_18 : decode cX1_hotWords 18 = .ok (.iinc 1 1, 3) := by decide +kernel
theorem dX1_hotWords_21 : decode cX1_hotWords 21 = .ok (.iinc 2 1, 3) := by decide +kernel
theorem dX1_hotWords_24 : decode cX1_hotWords 24 = .ok (.goto (-20), 3) := by decide +kernel
theorem dX1_hotWords_27 : decode cX1_hotWords 27 = .ok (.iload_n 1, 1) := by decide +kernel
theorem dX1_hotWords_28 : decode cX1_hotWords 28 = .ok (.ireturn, 1) := by decide +kernel
set_option maxRecDepth 20000 in
theorem ggX1_wayIn_X1_stuckIn : GoodIn wsX1_wayIn wsX1_stuckIn := goodIn_r _ [6, 7, 8, 16, 17, 18, 19, 20, 21, 22, 23, 24, 25, 26, 27, 28] (by decide +kernel) (by decide +kernel)
set_option maxRecDepth 20000 in
theorem gX1_wayIn_X1_stuckIn : GoodIn wsX1_wayIn (wsV RX1 64 RX1 yX1_stuckIn wsX1_stuckIn) := goodIn_app (goodIn_of _ (by decide +kernel)) ggX1_wayIn_X1_stuckIn
set_option maxRecDepth 20000 in
theorem ggX1_wayIn_J6_bitCount_0f7a4 : GoodIn wsX1_wayIn wsJ6_bitCount_0f7a4 := goodIn_r _ [12, 13, 14, 15] (by decide +kernel) (by decide +kernel)
set_option maxRecDepth 20000 in
theorem gX1_wayIn_J6_bitCount_0f7a4 : GoodIn wsX1_wayIn (va_wsS RX1 68 yJ6_bitCount_0f7a4 wsJ6_bitCount_0f7a4) := goodIn_app (goodIn_of _ (by decide +kernel)) ggX1_wayIn_J6_bitCount_0f7a4
theorem dX1_wayIn_0 : decode cX1_wayIn 0 = .ok (.iload_n 2, 1) := by decide +kernel
theorem dX1_wayIn_1 : decode cX1_wayIn 1 = .ok (.istore_n 3, 1) := by decide +kernel
theorem dX1_wayIn_2 : decode cX1_wayIn 2 = .ok (.iload_n 2, 1) := by decide +kernel
theorem dX1_wayIn_3 : decode cX1_wayIn 3 = .ok (.iconst (-1), 1) := by decide +kernel
theorem dX1_wayIn_4 : decode cX1_wayIn 4 = .ok (.ixor, 1) := by decide +kernel
theorem dX1_wayIn_5 : decode cX1_wayIn 5 = .ok (.sipush 4095, 3) := by decide +kernel
theorem dX1_wayIn_8 : decode cX1_wayIn 8 = .ok (.iand, 1) := by decide +kernel
theorem dX1_wayIn_9 : decode cX1_wayIn 9 = .ok (.sipush 4096, 3) := by decide +kernel
theorem dX1_wayIn_12 : decode cX1_wayIn 12 = .ok (.ior, 1) := by decide +kernel
theorem dX1_wayIn_13 : decode cX1_wayIn 13 = .ok (.istore 4, 2) := by decide +kernel
theorem dX1_wayIn_15 : decode cX1_wayIn 15 = .ok (.aload_n 0, 1) := by decide +kernel
theorem dX1_wayIn_16 : decode cX1_wayIn 16 = .ok (.iload_n 1, 1) := by decide +kernel
theorem dX1_wayIn_17 : decode cX1_wayIn 17 = .ok (.invokevirtual 64, 3) := by decide +kernel
theorem dX1_wayIn_20 : decode cX1_wayIn 20 = .ok (.istore 5, 2) := by decide +kernel
theorem dX1_wayIn_22 : decode cX1_wayIn 22 = .ok (.aload_n 0, 1) := by decide +kernel
theorem dX1_wayIn_23 : decode cX1_wayIn 23 = .ok (.getfield 9, 3) := by decide +kernel
theorem dX1_wayIn_26 : decode cX1_wayIn 26 = .ok (.iload_n 1, 1) := by decide +kernel
theorem dX1_wayIn_27 : decode cX1_wayIn 27 = .ok (.iaload, 1) := by decide +kernel
theorem dX1_wayIn_28 : decode cX1_wayIn 28 = .ok (.iload_n 3, 1) := by decide +kernel
theorem dX1_wayIn_29 : decode cX1_wayIn 29 = .ok (.ixor, 1) := by decide +kernel
theorem dX1_wayIn_30 : decode cX1_wayIn 30 = .ok (.istore 6, 2) := by decide +kernel
theorem dX1_wayIn_32 : decode cX1_wayIn 32 = .ok (.aload_n 0, 1) := by decide +kernel
theorem dX1_wayIn_33 : decode cX1_wayIn 33 = .ok (.getfield 9, 3) := by decide +kernel
theorem dX1_wayIn_36 : decode cX1_wayIn 36 = .ok (.iload_n 1, 1) := by decide +kernel
theorem dX1_wayIn_37 : decode cX1_wayIn 37 = .ok (.iaload, 1) := by decide +kernel
theorem dX1_wayIn_38 : decode cX1_wayIn 38 = .ok (.iload 4, 2) := by decide +kernel
theorem dX1_wayIn_40 : decode cX1_wayIn 40 = .ok (.ixor, 1) := by decide +kernel
theorem dX1_wayIn_41 : decode cX1_wayIn 41 = .ok (.istore 7, 2) := by decide +kernel
theorem dX1_wayIn_43 : decode cX1_wayIn 43 = .ok (.iload 7, 2) := by decide +kernel
theorem dX1_wayIn_45 : decode cX1_wayIn 45 = .ok (.iload 5, 2) := by decide +kernel
theorem dX1_wayIn_47 : decode cX1_wayIn 47 = .ok (.iand, 1) := by decide +kernel
theorem dX1_wayIn_48 : decode cX1_wayIn 48 = .ok (.ifCond .ne 7, 3) := by decide +kernel
theorem dX1_wayIn_51 : decode cX1_wayIn 51 = .ok (.iconst 1, 1) := by decide +kernel
theorem dX1_wayIn_52 : decode cX1_wayIn 52 = .ok (.goto 4, 3) := by decide +kernel
theorem dX1_wayIn_55 : decode cX1_wayIn 55 = .ok (.iconst 0, 1) := by decide +kernel
theorem dX1_wayIn_56 : decode cX1_wayIn 56 = .ok (.istore 8, 2) := by decide +kernel
theorem dX1_wayIn_58 : decode cX1_wayIn 58 = .ok (.iload 6, 2) := by decide +kernel
theorem dX1_wayIn_60 : decode cX1_wayIn 60 = .ok (.iload 5, 2) := by decide +kernel
theorem dX1_wayIn_62 : decode cX1_wayIn 62 = .ok (.iand, 1) := by decide +kernel
theorem dX1_wayIn_63 : decode cX1_wayIn 63 = .ok (.ifCond .eq 15, 3) := by decide +kernel
theorem dX1_wayIn_66 : decode cX1_wayIn 66 = .ok (.iload 8, 2) := by decide +kernel
theorem dX1_wayIn_68 : decode cX1_wayIn 68 = .ok (.ifCond .eq 8, 3) := by decide +kernel
theorem dX1_wayIn_71 : decode cX1_wayIn 71 = .ok (.iload 4, 2) := by decide +kernel
theorem dX1_wayIn_73 : decode cX1_wayIn 73 = .ok (.goto 4, 3) := by decide +kernel
theorem dX1_wayIn_76 : decode cX1_wayIn 76 = .ok (.iconst (-1), 1) := by decide +kernel
theorem dX1_wayIn_77 : decode cX1_wayIn 77 = .ok (.ireturn, 1) := by decide +kernel
theorem dX1_wayIn_78 : decode cX1_wayIn 78 = .ok (.iload 7, 2) := by decide +kernel
theorem dX1_wayIn_80 : decode cX1_wayIn 80 = .ok (.invokestatic 68, 3) := by decide +kernel
theorem dX1_wayIn_83 : decode cX1_wayIn 83 = .ok (.iload 6, 2) := by decide +kernel
theorem dX1_wayIn_85 : decode cX1_wayIn 85 = .ok (.invokestatic 68, 3) := by decide +kernel
theorem dX1_wayIn_88 : decode cX1_wayIn 88 = .ok (.if_icmp .ge 7, 3) := by decide +kernel
theorem dX1_wayIn_91 : decode cX1_wayIn 91 = .ok (.iconst 1, 1) := by decide +kernel
theorem dX1_wayIn_92 : decode cX1_wayIn 92 = .ok (.goto 4, 3) := by decide +kernel
theorem dX1_wayIn_95 : decode cX1_wayIn 95 = .ok (.iconst 0, 1) := by decide +kernel
theorem dX1_wayIn_96 : decode cX1_wayIn 96 = .ok (.istore 9, 2) := by decide +kernel
theorem dX1_wayIn_98 : decode cX1_wayIn 98 = .ok (.iload 8, 2) := by decide +kernel
theorem dX1_wayIn_100 : decode cX1_wayIn 100 = .ok (.ifCond .eq 13, 3) := by decide +kernel
theorem dX1_wayIn_103 : decode cX1_wayIn 103 = .ok (.iload 9, 2) := by decide +kernel
theorem dX1_wayIn_105 : decode cX1_wayIn 105 = .ok (.ifCond .eq 8, 3) := by decide +kernel
theorem dX1_wayIn_108 : decode cX1_wayIn 108 = .ok (.iload 4, 2) := by decide +kernel
theorem dX1_wayIn_110 : decode cX1_wayIn 110 = .ok (.goto 4, 3) := by decide +kernel
theorem dX1_wayIn_113 : decode cX1_wayIn 113 = .ok (.iload_n 3, 1) := by decide +kernel
theorem dX1_wayIn_114 : decode cX1_wayIn 114 = .ok (.ireturn, 1) := by decide +kernel
set_option maxRecDepth 20000 in
theorem ggX1_lessWorn_X1_wornTogether : GoodIn wsX1_lessWorn wsX1_wornTogether := goodIn_r _ [5, 6, 7, 8, 9, 10, 11, 12, 13, 14, 15, 16, 17, 18, 19] (by decide +kernel) (by decide +kernel)
set_option maxRecDepth 20000 in
theorem gX1_lessWorn_X1_wornTogether : GoodIn wsX1_lessWorn (wsV RX1 83 RX1 yX1_wornTogether wsX1_wornTogether) := goodIn_app (goodIn_of _ (by decide +kernel)) ggX1_lessWorn_X1_wornTogether
theorem dX1_lessWorn_0 : decode cX1_lessWorn 0 = .ok (.iload_n 1, 1) := by decide +kernel
theorem dX1_lessWorn_1 : decode cX1_lessWorn 1 = .ok (.iconst (-1), 1) := by decide +kernel
theorem dX1_lessWorn_2 : decode cX1_lessWorn 2 = .ok (.if_icmp .eq 16, 3) := by decide +kernel
theorem dX1_lessWorn_5 : decode cX1_lessWorn 5 = .ok (.aload_n 0, 1) := by decide +kernel
theorem dX1_lessWorn_6 : decode cX1_lessWorn 6 = .ok (.iload_n 2, 1) := by decide +kernel
theorem dX1_lessWorn_7 : decode cX1_lessWorn 7 = .ok (.invokevirtual 83, 3) := by decide +kernel
theorem dX1_lessWorn_10 : decode cX1_lessWorn 10 = .ok (.aload_n 0, 1) := by decide +kernel
theorem dX1_lessWorn_11 : decode cX1_lessWorn 11 = .ok (.iload_n 1, 1) := by decide +kernel
theorem dX1_lessWorn_12 : decode cX1_lessWorn 12 = .ok (.invokevirtual 83, 3) := by decide +kernel
theorem dX1_lessWorn_15 : decode cX1_lessWorn 15 = .ok (.if_icmp .ge 7, 3) := by decide +kernel
theorem dX1_lessWorn_18 : decode cX1_lessWorn 18 = .ok (.iload_n 2, 1) := by decide +kernel
theorem dX1_lessWorn_19 : decode cX1_lessWorn 19 = .ok (.goto 4, 3) := by decide +kernel
theorem dX1_lessWorn_22 : decode cX1_lessWorn 22 = .ok (.iload_n 1, 1) := by decide +kernel
theorem dX1_lessWorn_23 : decode cX1_lessWorn 23 = .ok (.ireturn, 1) := by decide +kernel
set_option maxRecDepth 20000 in
theorem ggX1_leastWornFree_X1_lessWorn : GoodIn wsX1_leastWornFree wsX1_lessWorn := goodIn_r _ [6, 7, 8, 9, 5, 10, 11, 12, 13, 14, 15, 16, 17, 18, 19, 20, 21, 22, 23, 24] (by decide +kernel) (by decide +kernel)
set_option maxRecDepth 20000 in
theorem gX1_leastWornFree_X1_lessWorn : GoodIn wsX1_leastWornFree (wsV RX1 86 RX1 yX1_lessWorn wsX1_lessWorn) := goodIn_app (goodIn_of _ (by decide +kernel)) ggX1_leastWornFree_X1_lessWorn
theorem dX1_leastWornFree_0 : decode cX1_leastWornFree 0 = .ok (.iconst (-1), 1) := by decide +kernel
theorem dX1_leastWornFree_1 : decode cX1_leastWornFree 1 = .ok (.istore_n 1, 1) := by decide +kernel
theorem dX1_leastWornFree_2 : decode cX1_leastWornFree 2 = .ok (.iconst 0, 1) := by decide +kernel
theorem dX1_leastWornFree_3 : decode cX1_leastWornFree 3 = .ok (.istore_n 2, 1) := by decide +kernel
theorem dX1_leastWornFree_4 : decode cX1_leastWornFree 4 = .ok (.iload_n 2, 1) := by decide +kernel
theorem dX1_leastWornFree_5 : decode cX1_leastWornFree 5 = .ok (.bipush 18, 2) := by decide +kernel
theorem dX1_leastWornFree_7 : decode cX1_leastWornFree 7 = .ok (.if_icmp .ge 26, 3) := by decide +kernel
theorem dX1_leastWornFree_10 : decode cX1_leastWornFree 10 = .ok (.aload_n 0, 1) := by decide +kernel
theorem dX1_leastWornFree_11 : decode cX1_leastWornFree 11 = .ok (.getfield 18, 3) := by decide +kernel
theorem dX1_leastWornFree_14 : decode cX1_leastWornFree 14 = .ok (.iload_n 2, 1) := by decide +kernel
theorem dX1_leastWornFree_15 : decode cX1_leastWornFree 15 = .ok (.iaload, 1) := by decide +kernel
theorem dX1_leastWornFree_16 : decode cX1_leastWornFree 16 = .ok (.iconst (-1), 1) := by decide +kernel
theorem dX1_leastWornFree_17 : decode cX1_leastWornFree 17 = .ok (.if_icmp .ne 10, 3) := by decide +kernel
theorem dX1_leastWornFree_20 : decode cX1_leastWornFree 20 = .ok (.aload_n 0, 1) := by decide +kernel
theorem dX1_leastWornFree_21 : decode cX1_leastWornFree 21 = .ok (.iload_n 1, 1) := by decide +kernel
theorem dX1_leastWornFree_22 : decode cX1_leastWornFree 22 = .ok (.iload_n 2, 1) := by decide +kernel
theorem dX1_leastWornFree_23 : decode cX1_leastWornFree 23 = .ok (.invokevirtual 86, 3) := by decide +kernel
theorem dX1_leastWornFree_26 : decode cX1_leastWornFree 26 = .ok (.istore_n 1, 1) := by decide +kernel
theorem dX1_leastWornFree_27 : decode cX1_leastWornFree 27 = .ok (.iinc 2 1, 3) := by decide +kernel
theorem dX1_leastWornFree_30 : decode cX1_leastWornFree 30 = .ok (.goto (-26), 3) := by decide +kernel
theorem dX1_leastWornFree_33 : decode cX1_leastWornFree 33 = .ok (.iload_n 1, 1) := by decide +kernel
theorem dX1_leastWornFree_34 : decode cX1_leastWornFree 34 = .ok (.ireturn, 1) := by decide +kernel
set_option maxRecDepth 20000 in
theorem ggX1_leastWornFreeFor_X1_wayIn : GoodIn wsX1_leastWornFreeFor wsX1_wayIn := goodIn_r _ [6, 7, 8, 9, 10, 5, 11, 12, 13, 14, 15, 16, 17, 18, 19, 20, 29, 30, 31, 32, 33, 34, 35, 36, 37, 38, 39, 40, 41] (by decide +kernel) (by decide +kernel)
set_option maxRecDepth 20000 in
theorem gX1_leastWornFreeFor_X1_wayIn : GoodIn wsX1_leastWornFreeFor (wsV RX1 89 RX1 yX1_wayIn wsX1_wayIn) := goodIn_app (goodIn_of _ (by decide +kernel)) ggX1_leastWornFreeFor_X1_wayIn
set_option maxRecDepth 20000 in
theorem ggX1_leastWornFreeFor_X1_lessWorn : GoodIn wsX1_leastWornFreeFor wsX1_lessWorn := goodIn_r _ [24, 25, 26, 27, 5, 28, 12, 29, 30, 31, 32, 33, 34, 35, 36, 37, 38, 39, 40, 41] (by decide +kernel) (by decide +kernel)
set_option maxRecDepth 20000 in
theorem gX1_leastWornFreeFor_X1_lessWorn : GoodIn wsX1_leastWornFreeFor (wsV RX1 86 RX1 yX1_lessWorn wsX1_lessWorn) := goodIn_app (goodIn_of _ (by decide +kernel)) ggX1_leastWornFreeFor_X1_lessWorn
theorem dX1_leastWornFreeFor_0 : decode cX1_leastWornFreeFor 0 = .ok (.iconst (-1), 1) := by decide +kernel
theorem dX1_leastWornFreeFor_1 : decode cX1_leastWornFreeFor 1 = .ok (.istore_n 2, 1) := by decide +kernel
theorem dX1_leastWornFreeFor_2 : decode cX1_leastWornFreeFor 2 = .ok (.iconst 0, 1) := by decide +kernel
theorem dX1_leastWornFreeFor_3 : decode cX1_leastWornFreeFor 3 = .ok (.istore_n 3, 1) := by decide +kernel
theorem dX1_leastWornFreeFor_4 : decode cX1_leastWornFreeFor 4 = .ok (.iload_n 3, 1) := by decide +kernel
theorem dX1_leastWornFreeFor_5 : decode cX1_leastWornFreeFor 5 = .ok (.bipush 18, 2) := by decide +kernel
theorem dX1_leastWornFreeFor_7 : decode cX1_leastWornFreeFor 7 = .ok (.if_icmp .ge 36, 3) := by decide +kernel
theorem dX1_leastWornFreeFor_10 : decode cX1_leastWornFreeFor 10 = .ok (.aload_n 0, 1) := by decide +kernel
theorem dX1_leastWornFreeFor_11 : decode cX1_leastWornFreeFor 11 = .ok (.getfield 18, 3) := by decide +kernel
theorem dX1_leastWornFreeFor_14 : decode cX1_leastWornFreeFor 14 = .ok (.iload_n 3, 1) := by decide +kernel
theorem dX1_leastWornFreeFor_15 : decode cX1_leastWornFreeFor 15 = .ok (.iaload, 1) := by decide +kernel
theorem dX1_leastWornFreeFor_16 : decode cX1_leastWornFreeFor 16 = .ok (.iconst (-1), 1) := by decide +kernel
theorem dX1_leastWornFreeFor_17 : decode cX1_leastWornFreeFor 17 = .ok (.if_icmp .ne 20, 3) := by decide +kernel
theorem dX1_leastWornFreeFor_20 : decode cX1_leastWornFreeFor 20 = .ok (.aload_n 0, 1) := by decide +kernel
theorem dX1_leastWornFreeFor_21 : decode cX1_leastWornFreeFor 21 = .ok (.iload_n 3, 1) := by decide +kernel
theorem dX1_leastWornFreeFor_22 : decode cX1_leastWornFreeFor 22 = .ok (.iload_n 1, 1) := by decide +kernel
theorem dX1_leastWornFreeFor_23 : decode cX1_leastWornFreeFor 23 = .ok (.invokevirtual 89, 3) := by decide +kernel
theorem dX1_leastWornFreeFor_26 : decode cX1_leastWornFreeFor 26 = .ok (.iconst (-1), 1) := by decide +kernel
theorem dX1_leastWornFreeFor_27 : decode cX1_leastWornFreeFor 27 = .ok (.if_icmp .eq 10, 3) := by decide +kernel
theorem dX1_leastWornFreeFor_30 : decode cX1_leastWornFreeFor 30 = .ok (.aload_n 0, 1) := by decide +kernel
theorem dX1_leastWornFreeFor_31 : decode cX1_leastWornFreeFor 31 = .ok (.iload_n 2, 1) := by decide +kernel
theorem dX1_leastWornFreeFor_32 : decode cX1_leastWornFreeFor 32 = .ok (.iload_n 3, 1) := by decide +kernel
theorem dX1_leastWornFreeFor_33 : decode cX1_leastWornFreeFor 33 = .ok (.invokevirtual 86, 3) := by decide +kernel
theorem dX1_leastWornFreeFor_36 : decode cX1_leastWornFreeFor 36 = .ok (.istore_n 2, 1) := by decide +kernel
theorem dX1_leastWornFreeFor_37 : decode cX1_leastWornFreeFor 37 = .ok (.iinc 3 1, 3) := by decide +kernel
theorem dX1_leastWornFreeFor_40 : decode cX1_leastWornFreeFor 40 = .ok (.goto (-36), 3) := by decide +kernel
theorem dX1_leastWornFreeFor_43 : decode cX1_leastWornFreeFor 43 = .ok (.iload_n 2, 1) := by decide +kernel
theorem dX1_leastWornFreeFor_44 : decode cX1_leastWornFreeFor 44 = .ok (.ireturn, 1) := by decide +kernel
set_option maxRecDepth 20000 in
theorem ggX1_targetOf_X1_wayIn : GoodIn wsX1_targetOf wsX1_wayIn := goodIn_r _ [6, 7, 8, 9, 10, 5, 11, 12, 13, 14, 15, 16, 17, 18, 19, 20, 39, 40, 41, 42, 43, 44, 45, 46, 47, 48, 49, 50, 51] (by decide +kernel) (by decide +kernel)
set_option maxRecDepth 20000 in
theorem gX1_targetOf_X1_wayIn : GoodIn wsX1_targetOf (wsV RX1 89 RX1 yX1_wayIn wsX1_wayIn) := goodIn_app (goodIn_of _ (by decide +kernel)) ggX1_targetOf_X1_wayIn
set_option maxRecDepth 20000 in
theorem ggX1_targetOf_X1_isHot : GoodIn wsX1_targetOf wsX1_isHot := goodIn_r _ [24, 13, 25, 39, 40, 41, 42, 43, 44, 45, 46, 47, 48, 49, 50, 51] (by decide +kernel) (by decide +kernel)
set_option maxRecDepth 20000 in
theorem gX1_targetOf_X1_isHot : GoodIn wsX1_targetOf (wsV RX1 79 RX1 yX1_isHot wsX1_isHot) := goodIn_app (goodIn_of _ (by decide +kernel)) ggX1_targetOf_X1_isHot
set_option maxRecDepth 20000 in
theorem ggX1_targetOf_X1_leastWornFreeFor : GoodIn wsX1_targetOf wsX1_leastWornFreeFor := goodIn_r _ [29, 30, 2, 3, 4, 5, 6, 7, 8, 9, 10, 11, 12, 13, 14, 15, 16, 17, 18, 19, 20, 31, 32, 33, 34, 35, 36, 37, 38, 39, 40, 41, 42, 43, 44, 45, 46, 47, 48, 49, 50, 51] (by decide +kernel) (by decide +kernel)
set_option maxRecDepth 20000 in
theorem gX1_targetOf_X1_leastWornFreeFor : GoodIn wsX1_targetOf (wsV RX1 92 RX1 yX1_leastWornFreeFor wsX1_leastWornFreeFor) := goodIn_app (goodIn_of _ (by decide +kernel)) ggX1_targetOf_X1_leastWornFreeFor
theorem dX1_targetOf_0 : decode cX1_targetOf 0 = .ok (.aload_n 0, 1) := by decide +kernel
theorem dX1_targetOf_1 : decode cX1_targetOf 1 = .ok (.getfield 21, 3) := by decide +kernel
theorem dX1_targetOf_4 : decode cX1_targetOf 4 = .ok (.iload_n 1, 1) := by decide +kernel
theorem dX1_targetOf_5 : decode cX1_targetOf 5 = .ok (.iaload, 1) := by decide +kernel
theorem dX1_targetOf_6 : decode cX1_targetOf 6 = .ok (.istore_n 3, 1) := by decide +kernel
theorem dX1_targetOf_7 : decode cX1_targetOf 7 = .ok (.aload_n 0, 1) := by decide +kernel
theorem dX1_targetOf_8 : decode cX1_targetOf 8 = .ok (.iload_n 3, 1) := by decide +kernel
theorem dX1_targetOf_9 : decode cX1_targetOf 9 = .ok (.iload_n 2, 1) := by decide +kernel
theorem dX1_targetOf_10 : decode cX1_targetOf 10 = .ok (.invokevirtual 89, 3) := by decide +kernel
theorem dX1_targetOf_13 : decode cX1_targetOf 13 = .ok (.iconst (-1), 1) := by decide +kernel
theorem dX1_targetOf_14 : decode cX1_targetOf 14 = .ok (.if_icmp .eq 7, 3) := by decide +kernel
theorem dX1_targetOf_17 : decode cX1_targetOf 17 = .ok (.iconst 1, 1) := by decide +kernel
theorem dX1_targetOf_18 : decode cX1_targetOf 18 = .ok (.goto 4, 3) := by decide +kernel
theorem dX1_targetOf_21 : decode cX1_targetOf 21 = .ok (.iconst 0, 1) := by decide +kernel
theorem dX1_targetOf_22 : decode cX1_targetOf 22 = .ok (.istore 4, 2) := by decide +kernel
theorem dX1_targetOf_24 : decode cX1_targetOf 24 = .ok (.iload 4, 2) := by decide +kernel
theorem dX1_targetOf_26 : decode cX1_targetOf 26 = .ok (.ifCond .eq 13, 3) := by decide +kernel
theorem dX1_targetOf_29 : decode cX1_targetOf 29 = .ok (.aload_n 0, 1) := by decide +kernel
theorem dX1_targetOf_30 : decode cX1_targetOf 30 = .ok (.iload_n 1, 1) := by decide +kernel
theorem dX1_targetOf_31 : decode cX1_targetOf 31 = .ok (.invokevirtual 79, 3) := by decide +kernel
theorem dX1_targetOf_34 : decode cX1_targetOf 34 = .ok (.ifCond .ne 5, 3) := by decide +kernel
theorem dX1_targetOf_37 : decode cX1_targetOf 37 = .ok (.iload_n 3, 1) := by decide +kernel
theorem dX1_targetOf_38 : decode cX1_targetOf 38 = .ok (.ireturn, 1) := by decide +kernel
theorem dX1_targetOf_39 : decode cX1_targetOf 39 = .ok (.aload_n 0, 1) := by decide +kernel
theorem dX1_targetOf_40 : decode cX1_targetOf 40 = .ok (.iload_n 2, 1) := by decide +kernel
theorem dX1_targetOf_41 : decode cX1_targetOf 41 = .ok (.invokevirtual 92, 3) := by decide +kernel
theorem dX1_targetOf_44 : decode cX1_targetOf 44 = .ok (.istore 5, 2) := by decide +kernel
theorem dX1_targetOf_46 : decode cX1_targetOf 46 = .ok (.iload 5, 2) := by decide +kernel
theorem dX1_targetOf_48 : decode cX1_targetOf 48 = .ok (.iconst (-1), 1) := by decide +kernel
theorem dX1_targetOf_49 : decode cX1_targetOf 49 = .ok (.if_icmp .ne 12, 3) := by decide +kernel
theorem dX1_targetOf_52 : decode cX1_targetOf 52 = .ok (.iload 4, 2) := by decide +kernel
theorem dX1_targetOf_54 : decode cX1_targetOf 54 = .ok (.ifCond .eq 7, 3) := by decide +kernel
theorem dX1_targetOf_57 : decode cX1_targetOf 57 = .ok (.iload_n 3, 1) := by decide +kernel
theorem dX1_targetOf_58 : decode cX1_targetOf 58 = .ok (.goto 5, 3) := by decide +kernel
theorem dX1_targetOf_61 : decode cX1_targetOf 61 = .ok (.iload 5, 2) := by decide +kernel
theorem dX1_targetOf_63 : decode cX1_targetOf 63 = .ok (.ireturn, 1) := by decide +kernel
set_option maxRecDepth 20000 in
theorem ggX1_place_X1_wayIn : GoodIn wsX1_place wsX1_wayIn := goodIn_r _ [10, 1, 11, 12, 13, 9, 14, 15, 16, 17, 18, 19, 20, 21, 22, 23, 46, 47, 48, 49, 50, 51, 52, 53, 54, 55, 56, 57, 58] (by decide +kernel) (by decide +kernel)
set_option maxRecDepth 20000 in
theorem gX1_place_X1_wayIn : GoodIn wsX1_place (wsV RX1 89 RX1 yX1_wayIn wsX1_wayIn) := goodIn_app (goodIn_of _ (by decide +kernel)) ggX1_place_X1_wayIn
set_option maxRecDepth 20000 in
theorem ggX1_place_J6_bitCount_0f7a4 : GoodIn wsX1_place wsJ6_bitCount_0f7a4 := goodIn_r _ [20, 21, 22, 23] (by decide +kernel) (by decide +kernel)
set_option maxRecDepth 20000 in
theorem gX1_place_J6_bitCount_0f7a4 : GoodIn wsX1_place (va_wsS RX1 68 yJ6_bitCount_0f7a4 wsJ6_bitCount_0f7a4) := goodIn_app (goodIn_of _ (by decide +kernel)) ggX1_place_J6_bitCount_0f7a4
set_option maxRecDepth 20000 in
theorem ggX1_place_X1_numberOf : GoodIn wsX1_place wsX1_numberOf := goodIn_r _ [27, 28, 29, 30, 31, 9, 32, 1, 46, 47, 48, 49, 50, 51, 52, 53, 54, 55, 56, 57, 58] (by decide +kernel) (by decide +kernel)
set_option maxRecDepth 20000 in
theorem gX1_place_X1_numberOf : GoodIn wsX1_place (wsV RX1 76 RX1 yX1_numberOf wsX1_numberOf) := goodIn_app (goodIn_of _ (by decide +kernel)) ggX1_place_X1_numberOf
set_option maxRecDepth 20000 in
theorem ggX1_place_X1_wearCells : GoodIn wsX1_place wsX1_wearCells := goodIn_r _ [36, 15, 46, 47, 48, 49, 50, 51, 52, 53, 54, 55, 56, 57, 58] (by decide +kernel) (by decide +kernel)
set_option maxRecDepth 20000 in
theorem gX1_place_X1_wearCells : GoodIn wsX1_place (wsV RX1 95 RX1 yX1_wearCells wsX1_wearCells) := goodIn_app (goodIn_of _ (by decide +kernel)) ggX1_place_X1_wearCells
set_option maxRecDepth 20000 in
theorem ggX1_place_X1_settle : GoodIn wsX1_place wsX1_settle := goodIn_r _ [40, 41, 28, 42, 43, 44, 45, 46, 47, 48, 49, 50, 51, 52, 53, 54, 55, 56, 57, 58] (by decide +kernel) (by decide +kernel)
set_option maxRecDepth 20000 in
theorem gX1_place_X1_settle : GoodIn wsX1_place (wsV RX1 99 RX1 yX1_settle wsX1_settle) := goodIn_app (goodIn_of _ (by decide +kernel)) ggX1_place_X1_settle
theorem dX1_place_0 : decode cX1_place 0 = .ok (.aload_n 0, 1) := by decide +kernel
theorem dX1_place_1 : decode cX1_place 1 = .ok (.iload_n 3, 1) := by decide +kernel
theorem dX1_place_2 : decode cX1_place 2 = .ok (.iload_n 2, 1) := by decide +kernel
theorem dX1_place_3 : decode cX1_place 3 = .ok (.invokevirtual 89, 3) := by decide +kernel
theorem dX1_place_6 : decode cX1_place 6 = .ok (.istore 4, 2) := by decide +kernel
theorem dX1_place_8 : decode cX1_place 8 = .ok (.aload_n 0, 1) := by decide +kernel
theorem dX1_place_9 : decode cX1_place 9 = .ok (.getfield 9, 3) := by decide +kernel
theorem dX1_place_12 : decode cX1_place 12 = .ok (.iload_n 3, 1) := by decide +kernel
theorem dX1_place_13 : decode cX1_place 13 = .ok (.iaload, 1) := by decide +kernel
theorem dX1_place_14 : decode cX1_place 14 = .ok (.iload 4, 2) := by decide +kernel
theorem dX1_place_16 : decode cX1_place 16 = .ok (.ixor, 1) := by decide +kernel
theorem dX1_place_17 : decode cX1_place 17 = .ok (.istore 5, 2) := by decide +kernel
theorem dX1_place_19 : decode cX1_place 19 = .ok (.iload 5, 2) := by decide +kernel
theorem dX1_place_21 : decode cX1_place 21 = .ok (.invokestatic 68, 3) := by decide +kernel
theorem dX1_place_24 : decode cX1_place 24 = .ok (.istore 6, 2) := by decide +kernel
theorem dX1_place_26 : decode cX1_place 26 = .ok (.aload_n 0, 1) := by decide +kernel
theorem dX1_place_27 : decode cX1_place 27 = .ok (.dup, 1) := by decide +kernel
theorem dX1_place_28 : decode cX1_place 28 = .ok (.getfield 42, 3) := by decide +kernel
theorem dX1_place_31 : decode cX1_place 31 = .ok (.iconst 1, 1) := by decide +kernel
theorem dX1_place_32 : decode cX1_place 32 = .ok (.iadd, 1) := by decide +kernel
theorem dX1_place_33 : decode cX1_place 33 = .ok (.putfield 42, 3) := by decide +kernel
theorem dX1_place_36 : decode cX1_place 36 = .ok (.aload_n 0, 1) := by decide +kernel
theorem dX1_place_37 : decode cX1_place 37 = .ok (.dup, 1) := by decide +kernel
theorem dX1_place_38 : decode cX1_place 38 = .ok (.getfield 46, 3) := by decide +kernel
theorem dX1_place_41 : decode cX1_place 41 = .ok (.iload 6, 2) := by decide +kernel
theorem dX1_place_43 : decode cX1_place 43 = .ok (.iadd, 1) := by decide +kernel
theorem dX1_place_44 : decode cX1_place 44 = .ok (.putfield 46, 3) := by decide +kernel
theorem dX1_place_47 : decode cX1_place 47 = .ok (.aload_n 0, 1) := by decide +kernel
theorem dX1_place_48 : decode cX1_place 48 = .ok (.dup, 1) := by decide +kernel
theorem dX1_place_49 : decode cX1_place 49 = .ok (.getfield 49, 3) := by decide +kernel
theorem dX1_place_52 : decode cX1_place 52 = .ok (.aload_n 0, 1) := by decide +kernel
theorem dX1_place_53 : decode cX1_place 53 = .ok (.iload_n 1, 1) := by decide +kernel
theorem dX1_place_54 : decode cX1_place 54 = .ok (.invokevirtual 76, 3) := by decide +kernel
theorem dX1_place_57 : decode cX1_place 57 = .ok (.iload_n 2, 1) := by decide +kernel
theorem dX1_place_58 : decode cX1_place 58 = .ok (.ixor, 1) := by decide +kernel
theorem dX1_place_59 : decode cX1_place 59 = .ok (.invokestatic 68, 3) := by decide +kernel
theorem dX1_place_62 : decode cX1_place 62 = .ok (.iadd, 1) := by decide +kernel
theorem dX1_place_63 : decode cX1_place 63 = .ok (.putfield 49, 3) := by decide +kernel
theorem dX1_place_66 : decode cX1_place 66 = .ok (.iload 4, 2) := by decide +kernel
theorem dX1_place_68 : decode cX1_place 68 = .ok (.sipush 4096, 3) := by decide +kernel
theorem dX1_place_71 : decode cX1_place 71 = .ok (.iand, 1) := by decide +kernel
theorem dX1_place_72 : decode cX1_place 72 = .ok (.ifCond .eq 13, 3) := by decide +kernel
theorem dX1_place_75 : decode cX1_place 75 = .ok (.aload_n 0, 1) := by decide +kernel
theorem dX1_place_76 : decode cX1_place 76 = .ok (.dup, 1) := by decide +kernel
theorem dX1_place_77 : decode cX1_place 77 = .ok (.getfield 55, 3) := by decide +kernel
theorem dX1_place_80 : decode cX1_place 80 = .ok (.iconst 1, 1) := by decide +kernel
theorem dX1_place_81 : decode cX1_place 81 = .ok (.iadd, 1) := by decide +kernel
theorem dX1_place_82 : decode cX1_place 82 = .ok (.putfield 55, 3) := by decide +kernel
theorem dX1_place_85 : decode cX1_place 85 = .ok (.aload_n 0, 1) := by decide +kernel
theorem dX1_place_86 : decode cX1_place 86 = .ok (.getfield 9, 3) := by decide +kernel
theorem dX1_place_89 : decode cX1_place 89 = .ok (.iload_n 3, 1) := by decide +kernel
theorem dX1_place_90 : decode cX1_place 90 = .ok (.iload 4, 2) := by decide +kernel
theorem dX1_place_92 : decode cX1_place 92 = .ok (.iastore, 1) := by decide +kernel
theorem dX1_place_93 : decode cX1_place 93 = .ok (.aload_n 0, 1) := by decide +kernel
theorem dX1_place_94 : decode cX1_place 94 = .ok (.iload_n 3, 1) := by decide +kernel
theorem dX1_place_95 : decode cX1_place 95 = .ok (.iload 5, 2) := by decide +kernel
theorem dX1_place_97 : decode cX1_place 97 = .ok (.invokevirtual 95, 3) := by decide +kernel
theorem dX1_place_100 : decode cX1_place 100 = .ok (.aload_n 0, 1) := by decide +kernel
theorem dX1_place_101 : decode cX1_place 101 = .ok (.iload_n 1, 1) := by decide +kernel
theorem dX1_place_102 : decode cX1_place 102 = .ok (.iload_n 3, 1) := by decide +kernel
theorem dX1_place_103 : decode cX1_place 103 = .ok (.invokevirtual 99, 3) := by decide +kernel
theorem dX1_place_106 : decode cX1_place 106 = .ok (.iload 6, 2) := by decide +kernel
theorem dX1_place_108 : decode cX1_place 108 = .ok (.ireturn, 1) := by decide +kernel
theorem dX1_wearCells_0 : decode cX1_wearCells 0 = .ok (.iload_n 1, 1) := by decide +kernel
theorem dX1_wearCells_1 : decode cX1_wearCells 1 = .ok (.bipush 13, 2) := by decide +kernel
theorem dX1_wearCells_3 : decode cX1_wearCells 3 = .ok (.imul, 1) := by decide +kernel
theorem dX1_wearCells_4 : decode cX1_wearCells 4 = .ok (.istore_n 3, 1) := by decide +kernel
theorem dX1_wearCells_5 : decode cX1_wearCells 5 = .ok (.iconst 0, 1) := by decide +kernel
theorem dX1_wearCells_6 : decode cX1_wearCells 6 = .ok (.istore 4, 2) := by decide +kernel
theorem dX1_wearCells_8 : decode cX1_wearCells 8 = .ok (.iload 4, 2) := by decide +kernel
theorem dX1_wearCells_10 : decode cX1_wearCells 10 = .ok (.bipush 13, 2) := by decide +kernel
theorem dX1_wearCells_12 : decode cX1_wearCells 12 = .ok (.if_icmp .ge 27, 3) := by decide +kernel
theorem dX1_wearCells_15 : decode cX1_wearCells 15 = .ok (.aload_n 0, 1) := by decide +kernel
theorem dX1_wearCells_16 : decode cX1_wearCells 16 = .ok (.getfield 15, 3) := by decide +kernel
theorem dX1_wearCells_19 : decode cX1_wearCells 19 = .ok (.iload_n 3, 1) := by decide +kernel
theorem dX1_wearCells_20 : decode cX1_wearCells 20 = .ok (.iload 4, 2) := by decide +kernel
theorem dX1_wearCells_22 : decode cX1_wearCells 22 = .ok (.iadd, 1) := by decide +kernel
theorem dX1_wearCells_23 : decode cX1_wearCells 23 = .ok (.dup2, 1) := by decide +kernel
theorem dX1_wearCells_24 : decode cX1_wearCells 24 = .ok (.iaload, 1) := by decide +kernel
theorem dX1_wearCells_25 : decode cX1_wearCells 25 = .ok (.iload_n 2, 1) := by decide +kernel
theorem dX1_wearCells_26 : decode cX1_wearCells 26 = .ok (.iload 4, 2) := by decide +kernel
theorem dX1_wearCells_28 : decode cX1_wearCells 28 = .ok (.ishr, 1) := by decide +kernel
theorem dX1_wearCells_29 : decode cX1_wearCells 29 = .ok (.iconst 1, 1) := by decide +kernel
theorem dX1_wearCells_30 : decode cX1_wearCells 30 = .ok (.iand, 1) := by decide +kernel
theorem dX1_wearCells_31 : decode cX1_wearCells 31 = .ok (.iadd, 1) := by decide +kernel
theorem dX1_wearCells_32 : decode cX1_wearCells 32 = .ok (.iastore, 1) := by decide +kernel
theorem dX1_wearCells_33 : decode cX1_wearCells 33 = .ok (.iinc 4 1, 3) := by decide +kernel
theorem dX1_wearCells_36 : decode cX1_wearCells 36 = .ok (.goto (-28), 3) := by decide +kernel
theorem dX1_wearCells_39 : decode cX1_wearCells 39 = .ok (.return_, 1) := by decide +kernel
theorem dX1_settle_0 : decode cX1_settle 0 = .ok (.aload_n 0, 1) := by decide +kernel
theorem dX1_settle_1 : decode cX1_settle 1 = .ok (.getfield 27, 3) := by decide +kernel
theorem dX1_settle_4 : decode cX1_settle 4 = .ok (.iload_n 1, 1) := by decide +kernel
theorem dX1_settle_5 : decode cX1_settle 5 = .ok (.dup2, 1) := by decide +kernel
theorem dX1_settle_6 : decode cX1_settle 6 = .ok (.iaload, 1) := by decide +kernel
theorem dX1_settle_7 : decode cX1_settle 7 = .ok (.iconst 1, 1) := by decide +kernel
theorem dX1_settle_8 : decode cX1_settle 8 = .ok (.iadd, 1) := by decide +kernel
theorem dX1_settle_9 : decode cX1_settle 9 = .ok (.iastore, 1) := by decide +kernel
theorem dX1_settle_10 : decode cX1_settle 10 = .ok (.aload_n 0, 1) := by decide +kernel
theorem dX1_settle_11 : decode cX1_settle 11 = .ok (.getfield 21, 3) := by decide +kernel
theorem dX1_settle_14 : decode cX1_settle 14 = .ok (.iload_n 1, 1) := by decide +kernel
theorem dX1_settle_15 : decode cX1_settle 15 = .ok (.iaload, 1) := by decide +kernel
theorem dX1_settle_16 : decode cX1_settle 16 = .ok (.istore_n 3, 1) := by decide +kernel
theorem dX1_settle_17 : decode cX1_settle 17 = .ok (.iload_n 2, 1) := by decide +kernel
theorem dX1_settle_18 : decode cX1_settle 18 = .ok (.iload_n 3, 1) := by decide +kernel
theorem dX1_settle_19 : decode cX1_settle 19 = .ok (.if_icmp .ne 14, 3) := by decide +kernel
theorem dX1_settle_22 : decode cX1_settle 22 = .ok (.aload_n 0, 1) := by decide +kernel
theorem dX1_settle_23 : decode cX1_settle 23 = .ok (.getfield 24, 3) := by decide +kernel
theorem dX1_settle_26 : decode cX1_settle 26 = .ok (.iload_n 1, 1) := by decide +kernel
theorem dX1_settle_27 : decode cX1_settle 27 = .ok (.dup2, 1) := by decide +kernel
theorem dX1_settle_28 : decode cX1_settle 28 = .ok (.iaload, 1) := by decide +kernel
theorem dX1_settle_29 : decode cX1_settle 29 = .ok (.iconst 1, 1) := by decide +kernel
theorem dX1_settle_30 : decode cX1_settle 30 = .ok (.iadd, 1) := by decide +kernel
theorem dX1_settle_31 : decode cX1_settle 31 = .ok (.iastore, 1) := by decide +kernel
theorem dX1_settle_32 : decode cX1_settle 32 = .ok (.return_, 1) := by decide +kernel
theorem dX1_settle_33 : decode cX1_settle 33 = .ok (.aload_n 0, 1) := by decide +kernel
theorem dX1_settle_34 : decode cX1_settle 34 = .ok (.getfield 18, 3) := by decide +kernel
theorem dX1_settle_37 : decode cX1_settle 37 = .ok (.iload_n 3, 1) := by decide +kernel
theorem dX1_settle_38 : decode cX1_settle 38 = .ok (.iconst (-1), 1) := by decide +kernel
theorem dX1_settle_39 : decode cX1_settle 39 = .ok (.iastore, 1) := by decide +kernel
theorem dX1_settle_40 : decode cX1_settle 40 = .ok (.aload_n 0, 1) := by decide +kernel
theorem dX1_settle_41 : decode cX1_settle 41 = .ok (.getfield 18, 3) := by decide +kernel
theorem dX1_settle_44 : decode cX1_settle 44 = .ok (.iload_n 2, 1) := by decide +kernel
theorem dX1_settle_45 : decode cX1_settle 45 = .ok (.iload_n 1, 1) := by decide +kernel
theorem dX1_settle_46 : decode cX1_settle 46 = .ok (.iastore, 1) := by decide +kernel
theorem dX1_settle_47 : decode cX1_settle 47 = .ok (.aload_n 0, 1) := by decide +kernel
theorem dX1_settle_48 : decode cX1_settle 48 = .ok (.getfield 21, 3) := by decide +kernel
theorem dX1_settle_51 : decode cX1_settle 51 = .ok (.iload_n 1, 1) := by decide +kernel
theorem dX1_settle_52 : decode cX1_settle 52 = .ok (.iload_n 2, 1) := by decide +kernel
theorem dX1_settle_53 : decode cX1_settle 53 = .ok (.iastore, 1) := by decide +kernel
theorem dX1_settle_54 : decode cX1_settle 54 = .ok (.aload_n 0, 1) := by decide +kernel
theorem dX1_settle_55 : decode cX1_settle 55 = .ok (.getfield 24, 3) := by decide +kernel
theorem dX1_settle_58 : decode cX1_settle 58 = .ok (.iload_n 1, 1) := by decide +kernel
theorem dX1_settle_59 : decode cX1_settle 59 = .ok (.iconst 0, 1) := by decide +kernel
theorem dX1_settle_60 : decode cX1_settle 60 = .ok (.iastore, 1) := by decide +kernel
theorem dX1_settle_61 : decode cX1_settle 61 = .ok (.aload_n 0, 1) := by decide +kernel
theorem dX1_settle_62 : decode cX1_settle 62 = .ok (.getfield 30, 3) := by decide +kernel
theorem dX1_settle_65 : decode cX1_settle 65 = .ok (.iload_n 1, 1) := by decide +kernel
theorem dX1_settle_66 : decode cX1_settle 66 = .ok (.dup2, 1) := by decide +kernel
theorem dX1_settle_67 : decode cX1_settle 67 = .ok (.iaload, 1) := by decide +kernel
theorem dX1_settle_68 : decode cX1_settle 68 = .ok (.iconst 1, 1) := by decide +kernel
theorem dX1_settle_69 : decode cX1_settle 69 = .ok (.iadd, 1) := by decide +kernel
theorem dX1_settle_70 : decode cX1_settle 70 = .ok (.iastore, 1) := by decide +kernel
theorem dX1_settle_71 : decode cX1_settle 71 = .ok (.aload_n 0, 1) := by decide +kernel
theorem dX1_settle_72 : decode cX1_settle 72 = .ok (.dup, 1) := by decide +kernel
theorem dX1_settle_73 : decode cX1_settle 73 = .ok (.getfield 52, 3) := by decide +kernel
theorem dX1_settle_76 : decode cX1_settle 76 = .ok (.iconst 1, 1) := by decide +kernel
theorem dX1_settle_77 : decode cX1_settle 77 = .ok (.iadd, 1) := by decide +kernel
theorem dX1_settle_78 : decode cX1_settle 78 = .ok (.putfield 52, 3) := by decide +kernel
theorem dX1_settle_81 : decode cX1_settle 81 = .ok (.return_, 1) := by decide +kernel
set_option maxRecDepth 20000 in
theorem ggX1_placeInTurns_X1_targetOf : GoodIn wsX1_placeInTurns wsX1_targetOf := goodIn_r _ [5, 6, 7, 8, 9, 4, 10, 11, 12, 13, 14, 15, 16, 17, 18, 19, 20, 21, 22, 23, 24, 25, 26, 27, 28, 29, 30, 31, 32, 33, 34, 35, 36, 37, 38, 39, 40, 41, 42, 70, 71, 72, 73, 74, 75, 76, 77, 78, 79, 80, 81, 82] (by decide +kernel) (by decide +kernel)
set_option maxRecDepth 20000 in
theorem gX1_placeInTurns_X1_targetOf : GoodIn wsX1_placeInTurns (wsV RX1 102 RX1 yX1_targetOf wsX1_targetOf) := goodIn_app (goodIn_of _ (by decide +kernel)) ggX1_placeInTurns_X1_targetOf
set_option maxRecDepth 20000 in
theorem ggX1_placeInTurns_X1_place : GoodIn wsX1_placeInTurns wsX1_place := goodIn_r _ [46, 11, 47, 48, 49, 50, 7, 8, 9, 4, 10, 12, 13, 14, 15, 16, 17, 18, 19, 20, 21, 22, 23, 24, 51, 52, 53, 54, 6, 55, 56, 57, 58, 59, 60, 61, 62, 63, 64, 65, 66, 67, 29, 34, 68, 69, 70, 71, 72, 73, 74, 75, 76, 77, 78, 79, 80, 81, 82] (by decide +kernel) (by decide +kernel)
set_option maxRecDepth 20000 in
theorem gX1_placeInTurns_X1_place : GoodIn wsX1_placeInTurns (wsV RX1 105 RX1 yX1_place wsX1_place) := goodIn_app (goodIn_of _ (by decide +kernel)) ggX1_placeInTurns_X1_place
theorem dX1_placeInTurns_0 : decode cX1_placeInTurns 0 = .ok (.iload_n 2, 1) := by decide +kernel
theorem dX1_placeInTurns_1 : decode cX1_placeInTurns 1 = .ok (.istore 4, 2) := by decide +kernel
theorem dX1_placeInTurns_3 : decode cX1_placeInTurns 3 = .ok (.iconst 0, 1) := by decide +kernel
theorem dX1_placeInTurns_4 : decode cX1_placeInTurns 4 = .ok (.istore 5, 2) := by decide +kernel
theorem dX1_placeInTurns_6 : decode cX1_placeInTurns 6 = .ok (.iload 5, 2) := by decide +kernel
theorem dX1_placeInTurns_8 : decode cX1_placeInTurns 8 = .ok (.iload_n 3, 1) := by decide +kernel
theorem dX1_placeInTurns_9 : decode cX1_placeInTurns 9 = .ok (.if_icmp .ge 45, 3) := by decide +kernel
theorem dX1_placeInTurns_12 : decode cX1_placeInTurns 12 = .ok (.aload_n 0, 1) := by decide +kernel
theorem dX1_placeInTurns_13 : decode cX1_placeInTurns 13 = .ok (.iload_n 1, 1) := by decide +kernel
theorem dX1_placeInTurns_14 : decode cX1_placeInTurns 14 = .ok (.iload 4, 2) := by decide +kernel
theorem dX1_placeInTurns_16 : decode cX1_placeInTurns 16 = .ok (.invokevirtual 102, 3) := by decide +kernel
theorem dX1_placeInTurns_19 : decode cX1_placeInTurns 19 = .ok (.istore 6, 2) := by decide +kernel
theorem dX1_placeInTurns_21 : decode cX1_placeInTurns 21 = .ok (.iload 6, 2) := by decide +kernel
theorem dX1_placeInTurns_23 : decode cX1_placeInTurns 23 = .ok (.iconst (-1), 1) := by decide +kernel
theorem dX1_placeInTurns_24 : decode cX1_placeInTurns 24 = .ok (.if_icmp .ne 6, 3) := by decide +kernel
theorem dX1_placeInTurns_27 : decode cX1_placeInTurns 27 = .ok (.iload 5, 2) := by decide +kernel
theorem dX1_placeInTurns_29 : decode cX1_placeInTurns 29 = .ok (.ireturn, 1) := by decide +kernel
theorem dX1_placeInTurns_30 : decode cX1_placeInTurns 30 = .ok (.aload_n 0, 1) := by decide +kernel
theorem dX1_placeInTurns_31 : decode cX1_placeInTurns 31 = .ok (.iload_n 1, 1) := by decide +kernel
theorem dX1_placeInTurns_32 : decode cX1_placeInTurns 32 = .ok (.iload 4, 2) := by decide +kernel
theorem dX1_placeInTurns_34 : decode cX1_placeInTurns 34 = .ok (.iload 6, 2) := by decide +kernel
theorem dX1_placeInTurns_36 : decode cX1_placeInTurns 36 = .ok (.invokevirtual 105, 3) := by decide +kernel
theorem dX1_placeInTurns_39 : decode cX1_placeInTurns 39 = .ok (.pop, 1) := by decide +kernel
theorem dX1_placeInTurns_40 : decode cX1_placeInTurns 40 = .ok (.iload 4, 2) := by decide +kernel
theorem dX1_placeInTurns_42 : decode cX1_placeInTurns 42 = .ok (.sipush 4095, 3) := by decide +kernel
theorem dX1_placeInTurns_45 : decode cX1_placeInTurns 45 = .ok (.ixor, 1) := by decide +kernel
theorem dX1_placeInTurns_46 : decode cX1_placeInTurns 46 = .ok (.istore 4, 2) := by decide +kernel
theorem dX1_placeInTurns_48 : decode cX1_placeInTurns 48 = .ok (.iinc 5 1, 3) := by decide +kernel
theorem dX1_placeInTurns_51 : decode cX1_placeInTurns 51 = .ok (.goto (-45), 3) := by decide +kernel
theorem dX1_placeInTurns_54 : decode cX1_placeInTurns 54 = .ok (.iload_n 3, 1) := by decide +kernel
theorem dX1_placeInTurns_55 : decode cX1_placeInTurns 55 = .ok (.ireturn, 1) := by decide +kernel
theorem dX1_swapSlots_0 : decode cX1_swapSlots 0 = .ok (.aload_n 0, 1) := by decide +kernel
theorem dX1_swapSlots_1 : decode cX1_swapSlots 1 = .ok (.getfield 21, 3) := by decide +kernel
theorem dX1_swapSlots_4 : decode cX1_swapSlots 4 = .ok (.iload_n 1, 1) := by decide +kernel
theorem dX1_swapSlots_5 : decode cX1_swapSlots 5 = .ok (.iaload, 1) := by decide +kernel
theorem dX1_swapSlots_6 : decode cX1_swapSlots 6 = .ok (.istore_n 3, 1) := by decide +kernel
theorem dX1_swapSlots_7 : decode cX1_swapSlots 7 = .ok (.aload_n 0, 1) := by decide +kernel
theorem dX1_swapSlots_8 : decode cX1_swapSlots 8 = .ok (.getfield 21, 3) := by decide +kernel
theorem dX1_swapSlots_11 : decode cX1_swapSlots 11 = .ok (.iload_n 1, 1) := by decide +kernel
theorem dX1_swapSlots_12 : decode cX1_swapSlots 12 = .ok (.aload_n 0, 1) := by decide +kernel
theorem dX1_swapSlots_13 : decode cX1_swapSlots 13 = .ok (.getfield 21, 3) := by decide +kernel
theorem dX1_swapSlots_16 : decode cX1_swapSlots 16 = .ok (.iload_n 2, 1) := by decide +kernel
theorem dX1_swapSlots_17 : decode cX1_swapSlots 17 = .ok (.iaload, 1) := by decide +kernel
theorem dX1_swapSlots_18 : decode cX1_swapSlots 18 = .ok (.iastore, 1) := by decide +kernel
theorem dX1_swapSlots_19 : decode cX1_swapSlots 19 = .ok (.aload_n 0, 1) := by decide +kernel
theorem dX1_swapSlots_20 : decode cX1_swapSlots 20 = .ok (.getfield 21, 3) := by decide +kernel
theorem dX1_swapSlots_23 : decode cX1_swapSlots 23 = .ok (.iload_n 2, 1) := by decide +kernel
theorem dX1_swapSlots_24 : decode cX1_swapSlots 24 = .ok (.iload_n 3, 1) := by decide +kernel
theorem dX1_swapSlots_25 : decode cX1_swapSlots 25 = .ok (.iastore, 1) := by decide +kernel
theorem dX1_swapSlots_26 : decode cX1_swapSlots 26 = .ok (.aload_n 0, 1) := by decide +kernel
theorem dX1_swapSlots_27 : decode cX1_swapSlots 27 = .ok (.getfield 18, 3) := by decide +kernel
theorem dX1_swapSlots_30 : decode cX1_swapSlots 30 = .ok (.aload_n 0, 1) := by decide +kernel
theorem dX1_swapSlots_31 : decode cX1_swapSlots 31 = .ok (.getfield 21, 3) := by decide +kernel
theorem dX1_swapSlots_34 : decode cX1_swapSlots 34 = .ok (.iload_n 1, 1) := by decide +kernel
theorem dX1_swapSlots_35 : decode cX1_swapSlots 35 = .ok (.iaload, 1) := by decide +kernel
theorem dX1_swapSlots_36 : decode cX1_swapSlots 36 = .ok (.iload_n 1, 1) := by decide +kernel
theorem dX1_swapSlots_37 : decode cX1_swapSlots 37 = .ok (.iastore, 1) := by decide +kernel
theorem dX1_swapSlots_38 : decode cX1_swapSlots 38 = .ok (.aload_n 0, 1) := by decide +kernel
theorem dX1_swapSlots_39 : decode cX1_swapSlots 39 = .ok (.getfield 18, 3) := by decide +kernel
theorem dX1_swapSlots_42 : decode cX1_swapSlots 42 = .ok (.aload_n 0, 1) := by decide +kernel
theorem dX1_swapSlots_43 : decode cX1_swapSlots 43 = .ok (.getfield 21, 3) := by decide +kernel
theorem dX1_swapSlots_46 : decode cX1_swapSlots 46 = .ok (.iload_n 2, 1) := by decide +kernel
theorem dX1_swapSlots_47 : decode cX1_swapSlots 47 = .ok (.iaload, 1) := by decide +kernel
theorem dX1_swapSlots_48 : decode cX1_swapSlots 48 = .ok (.iload_n 2, 1) := by decide +kernel
theorem dX1_swapSlots_49 : decode cX1_swapSlots 49 = .ok (.iastore, 1) := by decide +kernel
theorem dX1_swapSlots_50 : decode cX1_swapSlots 50 = .ok (.aload_n 0, 1) := by decide +kernel
theorem dX1_swapSlots_51 : decode cX1_swapSlots 51 = .ok (.getfield 24, 3) := by decide +kernel
theorem dX1_swapSlots_54 : decode cX1_swapSlots 54 = .ok (.iload_n 1, 1) := by decide +kernel
theorem dX1_swapSlots_55 : decode cX1_swapSlots 55 = .ok (.iconst 0, 1) := by decide +kernel
theorem dX1_swapSlots_56 : decode cX1_swapSlots 56 = .ok (.iastore, 1) := by decide +kernel
theorem dX1_swapSlots_57 : decode cX1_swapSlots 57 = .ok (.aload_n 0, 1) := by decide +kernel
theorem dX1_swapSlots_58 : decode cX1_swapSlots 58 = .ok (.getfield 24, 3) := by decide +kernel
theorem dX1_swapSlots_61 : decode cX1_swapSlots 61 = .ok (.iload_n 2, 1) := by decide +kernel
theorem dX1_swapSlots_62 : decode cX1_swapSlots 62 = .ok (.iconst 0, 1) := by decide +kernel
theorem dX1_swapSlots_63 : decode cX1_swapSlots 63 = .ok (.iastore, 1) := by decide +kernel
theorem dX1_swapSlots_64 : decode cX1_swapSlots 64 = .ok (.return_, 1) := by decide +kernel
set_option maxRecDepth 20000 in
theorem ggX1_dearestIn_X1_numberIn : GoodIn wsX1_dearestIn wsX1_numberIn := goodIn_r _ [5, 6, 26, 27, 28, 29, 30, 31, 32, 33, 34, 35, 36, 37, 38] (by decide +kernel) (by decide +kernel)
set_option maxRecDepth 20000 in
theorem gX1_dearestIn_X1_numberIn : GoodIn wsX1_dearestIn (wsV RX1 73 RX1 yX1_numberIn wsX1_numberIn) := goodIn_app (goodIn_of _ (by decide +kernel)) ggX1_dearestIn_X1_numberIn
set_option maxRecDepth 20000 in
theorem ggX1_dearestIn_X1_stuckIn : GoodIn wsX1_dearestIn wsX1_stuckIn := goodIn_r _ [10, 11, 12, 26, 27, 28, 29, 30, 31, 32, 33, 34, 35, 36, 37, 38] (by decide +kernel) (by decide +kernel)
set_option maxRecDepth 20000 in
theorem gX1_dearestIn_X1_stuckIn : GoodIn wsX1_dearestIn (wsV RX1 64 RX1 yX1_stuckIn wsX1_stuckIn) := goodIn_app (goodIn_of _ (by decide +kernel)) ggX1_dearestIn_X1_stuckIn
set_option maxRecDepth 20000 in
theorem ggX1_dearestIn_X1_lowestHalfwayFrom : GoodIn wsX1_dearestIn wsX1_lowestHalfwayFrom := goodIn_r _ [15, 16, 17, 18, 19, 20, 21, 22, 23, 24, 4, 25] (by decide +kernel) (by decide +kernel)
set_option maxRecDepth 20000 in
theorem gX1_dearestIn_X1_lowestHalfwayFrom : GoodIn wsX1_dearestIn (va_wsS RX1 109 yX1_lowestHalfwayFrom wsX1_lowestHalfwayFrom) := goodIn_app (goodIn_of _ (by decide +kernel)) ggX1_dearestIn_X1_lowestHalfwayFrom
theorem dX1_dearestIn_0 : decode cX1_dearestIn 0 = .ok (.aload_n 0, 1) := by decide +kernel
theorem dX1_dearestIn_1 : decode cX1_dearestIn 1 = .ok (.iload_n 1, 1) := by decide +kernel
theorem dX1_dearestIn_2 : decode cX1_dearestIn 2 = .ok (.invokevirtual 73, 3) := by decide +kernel
theorem dX1_dearestIn_5 : decode cX1_dearestIn 5 = .ok (.istore_n 2, 1) := by decide +kernel
theorem dX1_dearestIn_6 : decode cX1_dearestIn 6 = .ok (.aload_n 0, 1) := by decide +kernel
theorem dX1_dearestIn_7 : decode cX1_dearestIn 7 = .ok (.iload_n 1, 1) := by decide +kernel
theorem dX1_dearestIn_8 : decode cX1_dearestIn 8 = .ok (.invokevirtual 64, 3) := by decide +kernel
theorem dX1_dearestIn_11 : decode cX1_dearestIn 11 = .ok (.istore_n 3, 1) := by decide +kernel
theorem dX1_dearestIn_12 : decode cX1_dearestIn 12 = .ok (.iload_n 3, 1) := by decide +kernel
theorem dX1_dearestIn_13 : decode cX1_dearestIn 13 = .ok (.sipush 4096, 3) := by decide +kernel
theorem dX1_dearestIn_16 : decode cX1_dearestIn 16 = .ok (.iand, 1) := by decide +kernel
theorem dX1_dearestIn_17 : decode cX1_dearestIn 17 = .ok (.ifCond .eq 13, 3) := by decide +kernel
theorem dX1_dearestIn_20 : decode cX1_dearestIn 20 = .ok (.iload_n 2, 1) := by decide +kernel
theorem dX1_dearestIn_21 : decode cX1_dearestIn 21 = .ok (.iload_n 3, 1) := by decide +kernel
theorem dX1_dearestIn_22 : decode cX1_dearestIn 22 = .ok (.iconst (-1), 1) := by decide +kernel
theorem dX1_dearestIn_23 : decode cX1_dearestIn 23 = .ok (.ixor, 1) := by decide +kernel
theorem dX1_dearestIn_24 : decode cX1_dearestIn 24 = .ok (.sipush 4095, 3) := by decide +kernel
theorem dX1_dearestIn_27 : decode cX1_dearestIn 27 = .ok (.iand, 1) := by decide +kernel
theorem dX1_dearestIn_28 : decode cX1_dearestIn 28 = .ok (.ixor, 1) := by decide +kernel
theorem dX1_dearestIn_29 : decode cX1_dearestIn 29 = .ok (.ireturn, 1) := by decide +kernel
theorem dX1_dearestIn_30 : decode cX1_dearestIn 30 = .ok (.iload_n 3, 1) := by decide +kernel
theorem dX1_dearestIn_31 : decode cX1_dearestIn 31 = .ok (.ifCond .eq 7, 3) := by decide +kernel
theorem dX1_dearestIn_34 : decode cX1_dearestIn 34 = .ok (.iload_n 2, 1) := by decide +kernel
theorem dX1_dearestIn_35 : decode cX1_dearestIn 35 = .ok (.iload_n 3, 1) := by decide +kernel
theorem dX1_dearestIn_36 : decode cX1_dearestIn 36 = .ok (.ixor, 1) := by decide +kernel
theorem dX1_dearestIn_37 : decode cX1_dearestIn 37 = .ok (.ireturn, 1) := by decide +kernel
theorem dX1_dearestIn_38 : decode cX1_dearestIn 38 = .ok (.iload_n 2, 1) := by decide +kernel
theorem dX1_dearestIn_39 : decode cX1_dearestIn 39 = .ok (.invokestatic 109, 3) := by decide +kernel
theorem dX1_dearestIn_42 : decode cX1_dearestIn 42 = .ok (.ireturn, 1) := by decide +kernel
set_option maxRecDepth 20000 in
theorem ggX1_lowestHalfwayFrom_J6_bitCount_0f7a4 : GoodIn wsX1_lowestHalfwayFrom wsJ6_bitCount_0f7a4 := goodIn_r _ [4, 5, 6, 7] (by decide +kernel) (by decide +kernel)
set_option maxRecDepth 20000 in
theorem gX1_lowestHalfwayFrom_J6_bitCount_0f7a4 : GoodIn wsX1_lowestHalfwayFrom (va_wsS RX1 68 yJ6_bitCount_0f7a4 wsJ6_bitCount_0f7a4) := goodIn_app (goodIn_of _ (by decide +kernel)) ggX1_lowestHalfwayFrom_J6_bitCount_0f7a4
set_option maxRecDepth 20000 in
theorem ggX1_lowestHalfwayFrom_X1_lowestOnes : GoodIn wsX1_lowestHalfwayFrom wsX1_lowestOnes := goodIn_r _ [11] (by decide +kernel) (by decide +kernel)
set_option maxRecDepth 20000 in
theorem gX1_lowestHalfwayFrom_X1_lowestOnes : GoodIn wsX1_lowestHalfwayFrom (va_wsS RX1 112 yX1_lowestOnes wsX1_lowestOnes) := goodIn_app (goodIn_of _ (by decide +kernel)) ggX1_lowestHalfwayFrom_X1_lowestOnes
theorem dX1_lowestHalfwayFrom_0 : decode cX1_lowestHalfwayFrom 0 = .ok (.iload_n 0, 1) := by decide +kernel
theorem dX1_lowestHalfwayFrom_1 : decode cX1_lowestHalfwayFrom 1 = .ok (.invokestatic 68, 3) := by decide +kernel
theorem dX1_lowestHalfwayFrom_4 : decode cX1_lowestHalfwayFrom 4 = .ok (.istore_n 1, 1) := by decide +kernel
theorem dX1_lowestHalfwayFrom_5 : decode cX1_lowestHalfwayFrom 5 = .ok (.iload_n 1, 1) := by decide +kernel
theorem dX1_lowestHalfwayFrom_6 : decode cX1_lowestHalfwayFrom 6 = .ok (.bipush 6, 2) := by decide +kernel
theorem dX1_lowestHalfwayFrom_8 : decode cX1_lowestHalfwayFrom 8 = .ok (.if_icmp .ge 20, 3) := by decide +kernel
theorem dX1_lowestHalfwayFrom_11 : decode cX1_lowestHalfwayFrom 11 = .ok (.iload_n 0, 1) := by decide +kernel
theorem dX1_lowestHalfwayFrom_12 : decode cX1_lowestHalfwayFrom 12 = .ok (.iconst (-1), 1) := by decide +kernel
theorem dX1_lowestHalfwayFrom_13 : decode cX1_lowestHalfwayFrom 13 = .ok (.ixor, 1) := by decide +kernel
theorem dX1_lowestHalfwayFrom_14 : decode cX1_lowestHalfwayFrom 14 = .ok (.sipush 4095, 3) := by decide +kernel
theorem dX1_lowestHalfwayFrom_17 : decode cX1_lowestHalfwayFrom 17 = .ok (.iand, 1) := by decide +kernel
theorem dX1_lowestHalfwayFrom_18 : decode cX1_lowestHalfwayFrom 18 = .ok (.bipush 6, 2) := by decide +kernel
theorem dX1_lowestHalfwayFrom_20 : decode cX1_lowestHalfwayFrom 20 = .ok (.iload_n 1, 1) := by decide +kernel
theorem dX1_lowestHalfwayFrom_21 : decode cX1_lowestHalfwayFrom 21 = .ok (.isub, 1) := by decide +kernel
theorem dX1_lowestHalfwayFrom_22 : decode cX1_lowestHalfwayFrom 22 = .ok (.invokestatic 112, 3) := by decide +kernel
theorem dX1_lowestHalfwayFrom_25 : decode cX1_lowestHalfwayFrom 25 = .ok (.goto 11, 3) := by decide +kernel
theorem dX1_lowestHalfwayFrom_28 : decode cX1_lowestHalfwayFrom 28 = .ok (.iload_n 0, 1) := by decide +kernel
theorem dX1_lowestHalfwayFrom_29 : decode cX1_lowestHalfwayFrom 29 = .ok (.iload_n 1, 1) := by decide +kernel
theorem dX1_lowestHalfwayFrom_30 : decode cX1_lowestHalfwayFrom 30 = .ok (.bipush 7, 2) := by decide +kernel
theorem dX1_lowestHalfwayFrom_32 : decode cX1_lowestHalfwayFrom 32 = .ok (.isub, 1) := by decide +kernel
theorem dX1_lowestHalfwayFrom_33 : decode cX1_lowestHalfwayFrom 33 = .ok (.invokestatic 112, 3) := by decide +kernel
theorem dX1_lowestHalfwayFrom_36 : decode cX1_lowestHalfwayFrom 36 = .ok (.ireturn, 1) := by decide +kernel
theorem dX1_lowestOnes_0 : decode cX1_lowestOnes 0 = .ok (.iload_n 0, 1) := by decide +kernel
theorem dX1_lowestOnes_1 : decode cX1_lowestOnes 1 = .ok (.istore_n 2, 1) := by decide +kernel
theorem dX1_lowestOnes_2 : decode cX1_lowestOnes 2 = .ok (.iconst 0, 1) := by decide +kernel
theorem dX1_lowestOnes_3 : decode cX1_lowestOnes 3 = .ok (.istore_n 3, 1) := by decide +kernel
theorem dX1_lowestOnes_4 : decode cX1_lowestOnes 4 = .ok (.iload_n 3, 1) := by decide +kernel
theorem dX1_lowestOnes_5 : decode cX1_lowestOnes 5 = .ok (.iload_n 1, 1) := by decide +kernel
theorem dX1_lowestOnes_6 : decode cX1_lowestOnes 6 = .ok (.if_icmp .ge 15, 3) := by decide +kernel
theorem dX1_lowestOnes_9 : decode cX1_lowestOnes 9 = .ok (.iload_n 2, 1) := by decide +kernel
theorem dX1_lowestOnes_10 : decode cX1_lowestOnes 10 = .ok (.iload_n 2, 1) := by decide +kernel
theorem dX1_lowestOnes_11 : decode cX1_lowestOnes 11 = .ok (.iconst 1, 1) := by decide +kernel
theorem dX1_lowestOnes_12 : decode cX1_lowestOnes 12 = .ok (.isub, 1) := by decide +kernel
theorem dX1_lowestOnes_13 : decode cX1_lowestOnes 13 = .ok (.iand, 1) := by decide +kernel
theorem dX1_lowestOnes_14 : decode cX1_lowestOnes 14 = .ok (.istore_n 2, 1) := by decide +kernel
theorem dX1_lowestOnes_15 : decode cX1_lowestOnes 15 = .ok (.iinc 3 1, 3) := by decide +kernel
theorem dX1_lowestOnes_18 : decode cX1_lowestOnes 18 = .ok (.goto (-14), 3) := by decide +kernel
theorem dX1_lowestOnes_21 : decode cX1_lowestOnes 21 = .ok (.iload_n 0, 1) := by decide +kernel
theorem dX1_lowestOnes_22 : decode cX1_lowestOnes 22 = .ok (.iload_n 2, 1) := by decide +kernel
theorem dX1_lowestOnes_23 : decode cX1_lowestOnes 23 = .ok (.ixor, 1) := by decide +kernel
theorem dX1_lowestOnes_24 : decode cX1_lowestOnes 24 = .ok (.ireturn, 1) := by decide +kernel
theorem dJxe99ae_isNaN_b9ae7_0 : decode cJxe99ae_isNaN_b9ae7 0 = .ok (.dload_n 0, 1) := by decide +kernel
theorem dJxe99ae_isNaN_b9ae7_1 : decode cJxe99ae_isNaN_b9ae7 1 = .ok (.dload_n 0, 1) := by decide +kernel
theorem dJxe99ae_isNaN_b9ae7_2 : decode cJxe99ae_isNaN_b9ae7 2 = .ok (.dcmp .l, 1) := by decide +kernel
theorem dJxe99ae_isNaN_b9ae7_3 : decode cJxe99ae_isNaN_b9ae7 3 = .ok (.ifCond .eq 7, 3) := by decide +kernel
theorem dJxe99ae_isNaN_b9ae7_6 : decode cJxe99ae_isNaN_b9ae7 6 = .ok (.iconst 1, 1) := by decide +kernel
theorem dJxe99ae_isNaN_b9ae7_7 : decode cJxe99ae_isNaN_b9ae7 7 = .ok (.goto 4, 3) := by decide +kernel
theorem dJxe99ae_isNaN_b9ae7_10 : decode cJxe99ae_isNaN_b9ae7 10 = .ok (.iconst 0, 1) := by decide +kernel
theorem dJxe99ae_isNaN_b9ae7_11 : decode cJxe99ae_isNaN_b9ae7 11 = .ok (.ireturn, 1) := by decide +kernel
set_option maxRecDepth 20000 in
theorem ggJxe99ae_doubleToLongBits_ccdee_Jxe99ae_isNaN_b9ae7 : GoodIn wsJxe99ae_doubleToLongBits_ccdee wsJxe99ae_isNaN_b9ae7 := goodIn_r _ [9] (by decide +kernel) (by decide +kernel)
set_option maxRecDepth 20000 in
theorem gJxe99ae_doubleToLongBits_ccdee_Jxe99ae_isNaN_b9ae7 : GoodIn wsJxe99ae_doubleToLongBits_ccdee (va_wsS RJxe99ae 122 yJxe99ae_isNaN_b9ae7 wsJxe99ae_isNaN_b9ae7) := goodIn_app (goodIn_of _ (by decide +kernel)) ggJxe99ae_doubleToLongBits_ccdee_Jxe99ae_isNaN_b9ae7
theorem dJxe99ae_doubleToLongBits_ccdee_0 : decode cJxe99ae_doubleToLongBits_ccdee 0 = .ok (.dload_n 0, 1) := by decide +kernel
theorem dJxe99ae_doubleToLongBits_ccdee_1 : decode cJxe99ae_doubleToLongBits_ccdee 1 = .ok (.invokestatic 122, 3) := by decide +kernel
theorem dJxe99ae_doubleToLongBits_ccdee_4 : decode cJxe99ae_doubleToLongBits_ccdee 4 = .ok (.ifCond .ne 8, 3) := by decide +kernel
theorem dJxe99ae_doubleToLongBits_ccdee_7 : decode cJxe99ae_doubleToLongBits_ccdee 7 = .ok (.dload_n 0, 1) := by decide +kernel
theorem dJxe99ae_doubleToLongBits_ccdee_8 : decode cJxe99ae_doubleToLongBits_ccdee 8 = .ok (.invokestatic 134, 3) := by decide +kernel
theorem dJxe99ae_doubleToLongBits_ccdee_11 : decode cJxe99ae_doubleToLongBits_ccdee 11 = .ok (.lreturn, 1) := by decide +kernel
theorem dJxe99ae_doubleToLongBits_ccdee_12 : decode cJxe99ae_doubleToLongBits_ccdee 12 = .ok (.ldc2_w 137, 3) := by decide +kernel
theorem dJxe99ae_doubleToLongBits_ccdee_15 : decode cJxe99ae_doubleToLongBits_ccdee 15 = .ok (.lreturn, 1) := by decide +kernel
theorem dJ6_bitCount_0f7a4_0 : decode cJ6_bitCount_0f7a4 0 = .ok (.iload_n 0, 1) := by decide +kernel
theorem dJ6_bitCount_0f7a4_1 : decode cJ6_bitCount_0f7a4 1 = .ok (.iload_n 0, 1) := by decide +kernel
theorem dJ6_bitCount_0f7a4_2 : decode cJ6_bitCount_0f7a4 2 = .ok (.iconst 1, 1) := by decide +kernel
theorem dJ6_bitCount_0f7a4_3 : decode cJ6_bitCount_0f7a4 3 = .ok (.iushr, 1) := by decide +kernel
theorem dJ6_bitCount_0f7a4_4 : decode cJ6_bitCount_0f7a4 4 = .ok (.ldc_w 265, 3) := by decide +kernel
theorem dJ6_bitCount_0f7a4_7 : decode cJ6_bitCount_0f7a4 7 = .ok (.iand, 1) := by decide +kernel
theorem dJ6_bitCount_0f7a4_8 : decode cJ6_bitCount_0f7a4 8 = .ok (.isub, 1) := by decide +kernel
theorem dJ6_bitCount_0f7a4_9 : decode cJ6_bitCount_0f7a4 9 = .ok (.istore_n 0, 1) := by decide +kernel
theorem dJ6_bitCount_0f7a4_10 : decode cJ6_bitCount_0f7a4 10 = .ok (.iload_n 0, 1) := by decide +kernel
theorem dJ6_bitCount_0f7a4_11 : decode cJ6_bitCount_0f7a4 11 = .ok (.ldc_w 266, 3) := by decide +kernel
theorem dJ6_bitCount_0f7a4_14 : decode cJ6_bitCount_0f7a4 14 = .ok (.iand, 1) := by decide +kernel
theorem dJ6_bitCount_0f7a4_15 : decode cJ6_bitCount_0f7a4 15 = .ok (.iload_n 0, 1) := by decide +kernel
theorem dJ6_bitCount_0f7a4_16 : decode cJ6_bitCount_0f7a4 16 = .ok (.iconst 2, 1) := by decide +kernel
theorem dJ6_bitCount_0f7a4_17 : decode cJ6_bitCount_0f7a4 17 = .ok (.iushr, 1) := by decide +kernel
theorem dJ6_bitCount_0f7a4_18 : decode cJ6_bitCount_0f7a4 18 = .ok (.ldc_w 266, 3) := by decide +kernel
theorem dJ6_bitCount_0f7a4_21 : decode cJ6_bitCount_0f7a4 21 = .ok (.iand, 1) := by decide +kernel
theorem dJ6_bitCount_0f7a4_22 : decode cJ6_bitCount_0f7a4 22 = .ok (.iadd, 1) := by decide +kernel
theorem dJ6_bitCount_0f7a4_23 : decode cJ6_bitCount_0f7a4 23 = .ok (.istore_n 0, 1) := by decide +kernel
theorem dJ6_bitCount_0f7a4_24 : decode cJ6_bitCount_0f7a4 24 = .ok (.iload_n 0, 1) := by decide +kernel
theorem dJ6_bitCount_0f7a4_25 : decode cJ6_bitCount_0f7a4 25 = .ok (.iload_n 0, 1) := by decide +kernel
theorem dJ6_bitCount_0f7a4_26 : decode cJ6_bitCount_0f7a4 26 = .ok (.iconst 4, 1) := by decide +kernel
theorem dJ6_bitCount_0f7a4_27 : decode cJ6_bitCount_0f7a4 27 = .ok (.iushr, 1) := by decide +kernel
theorem dJ6_bitCount_0f7a4_28 : decode cJ6_bitCount_0f7a4 28 = .ok (.iadd, 1) := by decide +kernel
theorem dJ6_bitCount_0f7a4_29 : decode cJ6_bitCount_0f7a4 29 = .ok (.ldc_w 267, 3) := by decide +kernel
theorem dJ6_bitCount_0f7a4_32 : decode cJ6_bitCount_0f7a4 32 = .ok (.iand, 1) := by decide +kernel
theorem dJ6_bitCount_0f7a4_33 : decode cJ6_bitCount_0f7a4 33 = .ok (.istore_n 0, 1) := by decide +kernel
theorem dJ6_bitCount_0f7a4_34 : decode cJ6_bitCount_0f7a4 34 = .ok (.iload_n 0, 1) := by decide +kernel
theorem dJ6_bitCount_0f7a4_35 : decode cJ6_bitCount_0f7a4 35 = .ok (.iload_n 0, 1) := by decide +kernel
theorem dJ6_bitCount_0f7a4_36 : decode cJ6_bitCount_0f7a4 36 = .ok (.bipush 8, 2) := by decide +kernel
theorem dJ6_bitCount_0f7a4_38 : decode cJ6_bitCount_0f7a4 38 = .ok (.iushr, 1) := by decide +kernel
theorem dJ6_bitCount_0f7a4_39 : decode cJ6_bitCount_0f7a4 39 = .ok (.iadd, 1) := by decide +kernel
theorem dJ6_bitCount_0f7a4_40 : decode cJ6_bitCount_0f7a4 40 = .ok (.istore_n 0, 1) := by decide +kernel
theorem dJ6_bitCount_0f7a4_41 : decode cJ6_bitCount_0f7a4 41 = .ok (.iload_n 0, 1) := by decide +kernel
theorem dJ6_bitCount_0f7a4_42 : decode cJ6_bitCount_0f7a4 42 = .ok (.iload_n 0, 1) := by decide +kernel
theorem dJ6_bitCount_0f7a4_43 : decode cJ6_bitCount_0f7a4 43 = .ok (.bipush 16, 2) := by decide +kernel
theorem dJ6_bitCount_0f7a4_45 : decode cJ6_bitCount_0f7a4 45 = .ok (.iushr, 1) := by decide +kernel
theorem dJ6_bitCount_0f7a4_46 : decode cJ6_bitCount_0f7a4 46 = .ok (.iadd, 1) := by decide +kernel
theorem dJ6_bitCount_0f7a4_47 : decode cJ6_bitCount_0f7a4 47 = .ok (.istore_n 0, 1) := by decide +kernel
theorem dJ6_bitCount_0f7a4_48 : decode cJ6_bitCount_0f7a4 48 = .ok (.iload_n 0, 1) := by decide +kernel
theorem dJ6_bitCount_0f7a4_49 : decode cJ6_bitCount_0f7a4 49 = .ok (.bipush 63, 2) := by decide +kernel
theorem dJ6_bitCount_0f7a4_51 : decode cJ6_bitCount_0f7a4 51 = .ok (.iand, 1) := by decide +kernel
theorem dJ6_bitCount_0f7a4_52 : decode cJ6_bitCount_0f7a4 52 = .ok (.ireturn, 1) := by decide +kernel
theorem dJ9_max_7cf53_0 : decode cJ9_max_7cf53 0 = .ok (.iload_n 0, 1) := by decide +kernel
theorem dJ9_max_7cf53_1 : decode cJ9_max_7cf53 1 = .ok (.iload_n 1, 1) := by decide +kernel
theorem dJ9_max_7cf53_2 : decode cJ9_max_7cf53 2 = .ok (.if_icmp .lt 7, 3) := by decide +kernel
theorem dJ9_max_7cf53_5 : decode cJ9_max_7cf53 5 = .ok (.iload_n 0, 1) := by decide +kernel
theorem dJ9_max_7cf53_6 : decode cJ9_max_7cf53 6 = .ok (.goto 4, 3) := by decide +kernel
theorem dJ9_max_7cf53_9 : decode cJ9_max_7cf53 9 = .ok (.iload_n 1, 1) := by decide +kernel
theorem dJ9_max_7cf53_10 : decode cJ9_max_7cf53 10 = .ok (.ireturn, 1) := by decide +kernel
abbrev vwCl : List vw_C := [(RX0, TX0, 3), (RX1, TX1, 13), (RX2, TX2, 7), (RX3, TX3, 4), (RX4, TX4, 12)]
