/-! ===== BEGIN printed: names, fields, word lists, decode rows ===== -/
def RX0 : String := "SlotProbe$Findings"
def TX0 : u_T := fun k => match k with
  | 0 => ("SlotProbe$Findings", "commons", "[I", true)
  | 1 => ("SlotProbe$Findings", "off", "[I", true)
  | 2 => ("SlotProbe$Findings", "read", "[I", true)
  | 3 => ("SlotProbe$Findings", "told", "[I", true)
  | 4 => ("SlotProbe$Findings", "ordered", "[I", true)
  | _ => ("SlotProbe$Findings", "fresh", "Z", false)
def tyX0 : Nat → FieldType := fun k => match k with
  | 0 => .array .int
  | 1 => .array .int
  | 2 => .array .int
  | 3 => .array .int
  | 4 => .array .int
  | _ => .boolean
abbrev wsX00 : List Cond := u_ws RX0 TX0 6
theorem nmX0 : ∀ a, a < 6 → ∀ b, b < 6 → a ≠ b → (TX0 a).2.1 ≠ (TX0 b).2.1 := by decide +kernel
theorem tyX0_ok : ∀ k, k < 6 → parseFieldDescriptor (TX0 k).2.2.1 = some (tyX0 k) := by decide +kernel
abbrev cX0_init : ByteArray := prog_2_method_1_code
def yX0_init : MethodName := ⟨RX0, "<init>", "()V"⟩
abbrev cX0_workOut : ByteArray := prog_2_method_2_code
def yX0_workOut : MethodName := ⟨RX0, "workOut", "(LSlotProbe$State;)V"⟩
abbrev cX0_commonCheck : ByteArray := prog_2_method_3_code
def yX0_commonCheck : MethodName := ⟨RX0, "commonCheck", "(LSlotProbe$State;II)I"⟩
abbrev cX0_isSuspicious : ByteArray := prog_2_method_4_code
def yX0_isSuspicious : MethodName := ⟨RX0, "isSuspicious", "(LSlotProbe$State;III)Z"⟩
abbrev cX0_tiltRead : ByteArray := prog_2_method_5_code
def yX0_tiltRead : MethodName := ⟨RX0, "tiltRead", "(LSlotProbe$State;III)I"⟩
abbrev cX0_tellLevel : ByteArray := prog_2_method_6_code
def yX0_tellLevel : MethodName := ⟨RX0, "tellLevel", "(LSlotProbe$State;II)V"⟩
def RX1 : String := "SlotProbe$History"
def TX1 : u_T := fun k => match k with
  | 0 => ("SlotProbe$History", "ring", "[LSlotProbe$State;", true)
  | 1 => ("SlotProbe$History", "oldest", "I", false)
  | _ => ("SlotProbe$History", "saved", "I", false)
def tyX1 : Nat → FieldType := fun k => match k with
  | 0 => .array (.object "SlotProbe$State")
  | 1 => .int
  | _ => .int
abbrev wsX10 : List Cond := u_ws RX1 TX1 3
theorem nmX1 : ∀ a, a < 3 → ∀ b, b < 3 → a ≠ b → (TX1 a).2.1 ≠ (TX1 b).2.1 := by decide +kernel
theorem tyX1_ok : ∀ k, k < 3 → parseFieldDescriptor (TX1 k).2.2.1 = some (tyX1 k) := by decide +kernel
abbrev cX1_init : ByteArray := prog_3_method_1_code
def yX1_init : MethodName := ⟨RX1, "<init>", "()V"⟩
abbrev cX1_save : ByteArray := prog_3_method_2_code
def yX1_save : MethodName := ⟨RX1, "save", "(LSlotProbe$State;)V"⟩
abbrev cX1_bringBack : ByteArray := prog_3_method_3_code
def yX1_bringBack : MethodName := ⟨RX1, "bringBack", "(LSlotProbe$State;)V"⟩
def RX2 : String := "SlotProbe$State"
def TX2 : u_T := fun k => match k with
  | 0 => ("SlotProbe$State", "tilts", "[I", true)
  | 1 => ("SlotProbe$State", "turns", "[I", true)
  | 2 => ("SlotProbe$State", "biases", "[I", true)
  | 3 => ("SlotProbe$State", "settings", "[I", true)
  | 4 => ("SlotProbe$State", "readings", "[I", true)
  | 5 => ("SlotProbe$State", "days", "[I", true)
  | 6 => ("SlotProbe$State", "day", "I", false)
  | 7 => ("SlotProbe$State", "surveys", "I", false)
  | 8 => ("SlotProbe$State", "surveysTaken", "I", false)
  | _ => ("SlotProbe$State", "readingsSpoiled", "I", false)
def tyX2 : Nat → FieldType := fun k => match k with
  | 0 => .array .int
  | 1 => .array .int
  | 2 => .array .int
  | 3 => .array .int
  | 4 => .array .int
  | 5 => .array .int
  | 6 => .int
  | 7 => .int
  | 8 => .int
  | _ => .int
abbrev wsX20 : List Cond := u_ws RX2 TX2 10
theorem nmX2 : ∀ a, a < 10 → ∀ b, b < 10 → a ≠ b → (TX2 a).2.1 ≠ (TX2 b).2.1 := by decide +kernel
theorem tyX2_ok : ∀ k, k < 10 → parseFieldDescriptor (TX2 k).2.2.1 = some (tyX2 k) := by decide +kernel
abbrev cX2_init : ByteArray := prog_4_method_1_code
def yX2_init : MethodName := ⟨RX2, "<init>", "()V"⟩
abbrev cX2_become : ByteArray := prog_4_method_2_code
def yX2_become : MethodName := ⟨RX2, "become", "(LSlotProbe$State;)V"⟩
def RX3 : String := "SlotProbe$TextReader"
def TX3 : u_T := fun k => match k with
  | 0 => ("SlotProbe$TextReader", "step", "I", false)
  | 1 => ("SlotProbe$TextReader", "level", "I", false)
  | 2 => ("SlotProbe$TextReader", "own", "I", false)
  | 3 => ("SlotProbe$TextReader", "face", "I", false)
  | 4 => ("SlotProbe$TextReader", "number", "I", false)
  | _ => ("SlotProbe$TextReader", "below", "Z", false)
def tyX3 : Nat → FieldType := fun k => match k with
  | 0 => .int
  | 1 => .int
  | 2 => .int
  | 3 => .int
  | 4 => .int
  | _ => .boolean
abbrev wsX30 : List Cond := u_ws RX3 TX3 6
theorem nmX3 : ∀ a, a < 6 → ∀ b, b < 6 → a ≠ b → (TX3 a).2.1 ≠ (TX3 b).2.1 := by decide +kernel
theorem tyX3_ok : ∀ k, k < 6 → parseFieldDescriptor (TX3 k).2.2.1 = some (tyX3 k) := by decide +kernel
abbrev cX3_init : ByteArray := prog_5_method_1_code
def yX3_init : MethodName := ⟨RX3, "<init>", "()V"⟩
abbrev cX3_begin : ByteArray := prog_5_method_2_code
def yX3_begin : MethodName := ⟨RX3, "begin", "()V"⟩
abbrev cX3_mayEnd : ByteArray := prog_5_method_3_code
def yX3_mayEnd : MethodName := ⟨RX3, "mayEnd", "()Z"⟩
abbrev cX3_readingTold : ByteArray := prog_5_method_4_code
def yX3_readingTold : MethodName := ⟨RX3, "readingTold", "()I"⟩
abbrev cX3_takes : ByteArray := prog_5_method_5_code
def yX3_takes : MethodName := ⟨RX3, "takes", "(C)Z"⟩
abbrev cX3_isDigit : ByteArray := prog_5_method_6_code
def yX3_isDigit : MethodName := ⟨RX3, "isDigit", "(C)Z"⟩
abbrev cX3_takesFirstOfLevel : ByteArray := prog_5_method_7_code
def yX3_takesFirstOfLevel : MethodName := ⟨RX3, "takesFirstOfLevel", "(C)Z"⟩
abbrev cX3_takesInLevel : ByteArray := prog_5_method_8_code
def yX3_takesInLevel : MethodName := ⟨RX3, "takesInLevel", "(C)Z"⟩
abbrev cX3_takesFace : ByteArray := prog_5_method_9_code
def yX3_takesFace : MethodName := ⟨RX3, "takesFace", "(C)Z"⟩
abbrev cX3_takesEquals : ByteArray := prog_5_method_10_code
def yX3_takesEquals : MethodName := ⟨RX3, "takesEquals", "(C)Z"⟩
abbrev cX3_takesFirstOfReading : ByteArray := prog_5_method_11_code
def yX3_takesFirstOfReading : MethodName := ⟨RX3, "takesFirstOfReading", "(C)Z"⟩
abbrev cX3_takesFirstOfNumber : ByteArray := prog_5_method_12_code
def yX3_takesFirstOfNumber : MethodName := ⟨RX3, "takesFirstOfNumber", "(C)Z"⟩
abbrev cX3_takesInNumber : ByteArray := prog_5_method_13_code
def yX3_takesInNumber : MethodName := ⟨RX3, "takesInNumber", "(C)Z"⟩
def RX4 : String := "SlotProbe"
def TX4 : u_T := fun k => match k with
  | 0 => ("SlotProbe", "now", "LSlotProbe$State;", true)
  | 1 => ("SlotProbe", "slots", "[LSlotProbe$State;", true)
  | 2 => ("SlotProbe", "slotHolds", "[Z", true)
  | 3 => ("SlotProbe", "history", "LSlotProbe$History;", true)
  | 4 => ("SlotProbe", "findings", "LSlotProbe$Findings;", true)
  | 5 => ("SlotProbe", "reader", "LSlotProbe$TextReader;", true)
  | 6 => ("SlotProbe", "buffer", "[C", true)
  | _ => ("SlotProbe", "bufferLength", "I", false)
def tyX4 : Nat → FieldType := fun k => match k with
  | 0 => .object "SlotProbe$State"
  | 1 => .array (.object "SlotProbe$State")
  | 2 => .array .boolean
  | 3 => .object "SlotProbe$History"
  | 4 => .object "SlotProbe$Findings"
  | 5 => .object "SlotProbe$TextReader"
  | 6 => .array .char
  | _ => .int
abbrev wsX40 : List Cond := u_ws RX4 TX4 8
theorem nmX4 : ∀ a, a < 8 → ∀ b, b < 8 → a ≠ b → (TX4 a).2.1 ≠ (TX4 b).2.1 := by decide +kernel
theorem tyX4_ok : ∀ k, k < 8 → parseFieldDescriptor (TX4 k).2.2.1 = some (tyX4 k) := by decide +kernel
abbrev cX4_init : ByteArray := prog_1_method_1_code
def yX4_init : MethodName := ⟨RX4, "<init>", "()V"⟩
abbrev cX4_bend : ByteArray := prog_1_method_2_code
def yX4_bend : MethodName := ⟨RX4, "bend", "(III)I"⟩
abbrev cX4_slide : ByteArray := prog_1_method_3_code
def yX4_slide : MethodName := ⟨RX4, "slide", "(III)I"⟩
abbrev cX4_turn : ByteArray := prog_1_method_4_code
def yX4_turn : MethodName := ⟨RX4, "turn", "(II)I"⟩
abbrev cX4_bias : ByteArray := prog_1_method_5_code
def yX4_bias : MethodName := ⟨RX4, "bias", "(II)I"⟩
abbrev cX4_set : ByteArray := prog_1_method_6_code
def yX4_set : MethodName := ⟨RX4, "set", "(II)I"⟩
abbrev cX4_pass : ByteArray := prog_1_method_7_code
def yX4_pass : MethodName := ⟨RX4, "pass", "(I)I"⟩
abbrev cX4_survey : ByteArray := prog_1_method_8_code
def yX4_survey : MethodName := ⟨RX4, "survey", "()I"⟩
abbrev cX4_drop : ByteArray := prog_1_method_9_code
def yX4_drop : MethodName := ⟨RX4, "drop", "()I"⟩
abbrev cX4_spoil : ByteArray := prog_1_method_10_code
def yX4_spoil : MethodName := ⟨RX4, "spoil", "(IIII)I"⟩
abbrev cX4_append : ByteArray := prog_1_method_11_code
def yX4_append : MethodName := ⟨RX4, "append", "(I)I"⟩
abbrev cX4_clearBuffer : ByteArray := prog_1_method_12_code
def yX4_clearBuffer : MethodName := ⟨RX4, "clearBuffer", "()I"⟩
abbrev cX4_firstError : ByteArray := prog_1_method_13_code
def yX4_firstError : MethodName := ⟨RX4, "firstError", "()I"⟩
abbrev cX4_load : ByteArray := prog_1_method_14_code
def yX4_load : MethodName := ⟨RX4, "load", "()I"⟩
abbrev cX4_keep : ByteArray := prog_1_method_15_code
def yX4_keep : MethodName := ⟨RX4, "keep", "(I)I"⟩
abbrev cX4_goBack : ByteArray := prog_1_method_16_code
def yX4_goBack : MethodName := ⟨RX4, "goBack", "(I)I"⟩
abbrev cX4_undo : ByteArray := prog_1_method_17_code
def yX4_undo : MethodName := ⟨RX4, "undo", "()I"⟩
abbrev cX4_levelOf : ByteArray := prog_1_method_18_code
def yX4_levelOf : MethodName := ⟨RX4, "levelOf", "(II)I"⟩
abbrev cX4_reading : ByteArray := prog_1_method_19_code
def yX4_reading : MethodName := ⟨RX4, "reading", "(IIII)I"⟩
abbrev cX4_surveyOf : ByteArray := prog_1_method_20_code
def yX4_surveyOf : MethodName := ⟨RX4, "surveyOf", "(II)I"⟩
abbrev cX4_place : ByteArray := prog_1_method_21_code
def yX4_place : MethodName := ⟨RX4, "place", "(IIII)I"⟩
abbrev cX4_count : ByteArray := prog_1_method_22_code
def yX4_count : MethodName := ⟨RX4, "count", "(I)I"⟩
abbrev cX4_setting : ByteArray := prog_1_method_23_code
def yX4_setting : MethodName := ⟨RX4, "setting", "(I)I"⟩
abbrev cX4_moved : ByteArray := prog_1_method_24_code
def yX4_moved : MethodName := ⟨RX4, "moved", "(IIII)I"⟩
abbrev cX4_slidesAt : ByteArray := prog_1_method_25_code
def yX4_slidesAt : MethodName := ⟨RX4, "slidesAt", "(III)I"⟩
abbrev cX4_firstMoved : ByteArray := prog_1_method_26_code
def yX4_firstMoved : MethodName := ⟨RX4, "firstMoved", "(IIII)I"⟩
abbrev cX4_speed : ByteArray := prog_1_method_27_code
def yX4_speed : MethodName := ⟨RX4, "speed", "(III)D"⟩
abbrev cX4_meanCheck : ByteArray := prog_1_method_28_code
def yX4_meanCheck : MethodName := ⟨RX4, "meanCheck", "(II)F"⟩
abbrev cX4_spread : ByteArray := prog_1_method_29_code
def yX4_spread : MethodName := ⟨RX4, "spread", "(II)D"⟩
abbrev cX4_digest : ByteArray := prog_1_method_30_code
def yX4_digest : MethodName := ⟨RX4, "digest", "()J"⟩
abbrev cX4_isWithin : ByteArray := prog_1_method_31_code
def yX4_isWithin : MethodName := ⟨RX4, "isWithin", "(III)Z"⟩
abbrev cX4_needIndex : ByteArray := prog_1_method_32_code
def yX4_needIndex : MethodName := ⟨RX4, "needIndex", "(II)V"⟩
abbrev cX4_needRange : ByteArray := prog_1_method_33_code
def yX4_needRange : MethodName := ⟨RX4, "needRange", "(III)V"⟩
abbrev cX4_needText : ByteArray := prog_1_method_34_code
def yX4_needText : MethodName := ⟨RX4, "needText", "(Z)V"⟩
abbrev cX4_needState : ByteArray := prog_1_method_35_code
def yX4_needState : MethodName := ⟨RX4, "needState", "(Z)V"⟩
abbrev cX4_readingAt : ByteArray := prog_1_method_36_code
def yX4_readingAt : MethodName := ⟨RX4, "readingAt", "(IIII)I"⟩
abbrev cX4_tiltAt : ByteArray := prog_1_method_37_code
def yX4_tiltAt : MethodName := ⟨RX4, "tiltAt", "(III)I"⟩
abbrev cX4_beginChange : ByteArray := prog_1_method_38_code
def yX4_beginChange : MethodName := ⟨RX4, "beginChange", "()V"⟩
abbrev cX4_turnedTilt : ByteArray := prog_1_method_39_code
def yX4_turnedTilt : MethodName := ⟨RX4, "turnedTilt", "(IIII)I"⟩
abbrev cX4_probeReads : ByteArray := prog_1_method_40_code
def yX4_probeReads : MethodName := ⟨RX4, "probeReads", "(III)I"⟩
abbrev cX4_checkOf : ByteArray := prog_1_method_41_code
def yX4_checkOf : MethodName := ⟨RX4, "checkOf", "(LSlotProbe$State;III)I"⟩
abbrev cX4_turnedLevels : ByteArray := prog_1_method_42_code
def yX4_turnedLevels : MethodName := ⟨RX4, "turnedLevels", "()I"⟩
abbrev cX4_suspiciousTilts : ByteArray := prog_1_method_43_code
def yX4_suspiciousTilts : MethodName := ⟨RX4, "suspiciousTilts", "(I)I"⟩
abbrev cX4_levelFarthestOff : ByteArray := prog_1_method_44_code
def yX4_levelFarthestOff : MethodName := ⟨RX4, "levelFarthestOff", "(I)I"⟩
abbrev cX4_toldTogether : ByteArray := prog_1_method_45_code
def yX4_toldTogether : MethodName := ⟨RX4, "toldTogether", "(IIII)I"⟩
abbrev cX4_slidBetween : ByteArray := prog_1_method_46_code
def yX4_slidBetween : MethodName := ⟨RX4, "slidBetween", "(IIII)I"⟩
abbrev cX4_movedUpTo : ByteArray := prog_1_method_47_code
def yX4_movedUpTo : MethodName := ⟨RX4, "movedUpTo", "(IIII)I"⟩
abbrev cX4_bufferTellsReadings : ByteArray := prog_1_method_48_code
def yX4_bufferTellsReadings : MethodName := ⟨RX4, "bufferTellsReadings", "()Z"⟩
abbrev cX4_putReadings : ByteArray := prog_1_method_49_code
def yX4_putReadings : MethodName := ⟨RX4, "putReadings", "(I)I"⟩
abbrev cX4_mixed : ByteArray := prog_1_method_50_code
def yX4_mixed : MethodName := ⟨RX4, "mixed", "(JJ)J"⟩
abbrev cX4_digestOfCasing : ByteArray := prog_1_method_51_code
def yX4_digestOfCasing : MethodName := ⟨RX4, "digestOfCasing", "(J)J"⟩
abbrev cX4_digestOfSurvey : ByteArray := prog_1_method_52_code
def yX4_digestOfSurvey : MethodName := ⟨RX4, "digestOfSurvey", "(JI)J"⟩
abbrev cX4_digestOfTexts : ByteArray := prog_1_method_53_code
def yX4_digestOfTexts : MethodName := ⟨RX4, "digestOfTexts", "(J)J"⟩
abbrev cX4_bitsOfDouble : ByteArray := prog_1_method_54_code
def yX4_bitsOfDouble : MethodName := ⟨RX4, "bitsOfDouble", "(D)J"⟩
abbrev cX4_bitsOfFloat : ByteArray := prog_1_method_55_code
def yX4_bitsOfFloat : MethodName := ⟨RX4, "bitsOfFloat", "(F)I"⟩
abbrev cX4_bitsOfMagnitude : ByteArray := prog_1_method_56_code
def yX4_bitsOfMagnitude : MethodName := ⟨RX4, "bitsOfMagnitude", "(DII)J"⟩
def RX5 : String := "SlotProbeModel"
def TX5 : u_T := fun k => match k with
  | 0 => ("SlotProbeModel", "thrown", "I", false)
  | 1 => ("SlotProbeModel", "s", "[I", true)
  | 2 => ("SlotProbeModel", "saved", "I", false)
  | 3 => ("SlotProbeModel", "isKept", "[Z", true)
  | 4 => ("SlotProbeModel", "text", "[I", true)
  | 5 => ("SlotProbeModel", "length", "I", false)
  | 6 => ("SlotProbeModel", "at", "I", false)
  | 7 => ("SlotProbeModel", "place", "I", false)
  | 8 => ("SlotProbeModel", "value", "I", false)
  | _ => ("SlotProbeModel", "hash", "J", false)
def tyX5 : Nat → FieldType := fun k => match k with
  | 0 => .int
  | 1 => .array .int
  | 2 => .int
  | 3 => .array .boolean
  | 4 => .array .int
  | 5 => .int
  | 6 => .int
  | 7 => .int
  | 8 => .int
  | _ => .long
abbrev wsX50 : List Cond := u_ws RX5 TX5 10
theorem nmX5 : ∀ a, a < 10 → ∀ b, b < 10 → a ≠ b → (TX5 a).2.1 ≠ (TX5 b).2.1 := by decide +kernel
theorem tyX5_ok : ∀ k, k < 10 → parseFieldDescriptor (TX5 k).2.2.1 = some (tyX5 k) := by decide +kernel
abbrev cX5_init : ByteArray := prog_7_method_1_code
def yX5_init : MethodName := ⟨RX5, "<init>", "()V"⟩
abbrev cX5_thrown : ByteArray := prog_7_method_2_code
def yX5_thrown : MethodName := ⟨RX5, "thrown", "()I"⟩
abbrev cX5_in : ByteArray := prog_7_method_3_code
def yX5_in : MethodName := ⟨RX5, "in", "(III)Z"⟩
abbrev cX5_holds : ByteArray := prog_7_method_4_code
def yX5_holds : MethodName := ⟨RX5, "holds", "(I)Z"⟩
abbrev cX5_isLevel : ByteArray := prog_7_method_5_code
def yX5_isLevel : MethodName := ⟨RX5, "isLevel", "(I)Z"⟩
abbrev cX5_isSide : ByteArray := prog_7_method_6_code
def yX5_isSide : MethodName := ⟨RX5, "isSide", "(I)Z"⟩
abbrev cX5_isSurvey : ByteArray := prog_7_method_7_code
def yX5_isSurvey : MethodName := ⟨RX5, "isSurvey", "(I)Z"⟩
abbrev cX5_size : ByteArray := prog_7_method_8_code
def yX5_size : MethodName := ⟨RX5, "size", "(I)I"⟩
abbrev cX5_tilt : ByteArray := prog_7_method_9_code
def yX5_tilt : MethodName := ⟨RX5, "tilt", "(II)I"⟩
abbrev cX5_turnOf : ByteArray := prog_7_method_10_code
def yX5_turnOf : MethodName := ⟨RX5, "turnOf", "(I)I"⟩
abbrev cX5_ownTilt : ByteArray := prog_7_method_11_code
def yX5_ownTilt : MethodName := ⟨RX5, "ownTilt", "(II)I"⟩
abbrev cX5_wouldRead : ByteArray := prog_7_method_12_code
def yX5_wouldRead : MethodName := ⟨RX5, "wouldRead", "(III)I"⟩
abbrev cX5_placeOf : ByteArray := prog_7_method_13_code
def yX5_placeOf : MethodName := ⟨RX5, "placeOf", "(III)I"⟩
abbrev cX5_read : ByteArray := prog_7_method_14_code
def yX5_read : MethodName := ⟨RX5, "read", "(IIII)I"⟩
abbrev cX5_check : ByteArray := prog_7_method_15_code
def yX5_check : MethodName := ⟨RX5, "check", "(III)I"⟩
abbrev cX5_common : ByteArray := prog_7_method_16_code
def yX5_common : MethodName := ⟨RX5, "common", "(II)I"⟩
abbrev cX5_isSuspicious : ByteArray := prog_7_method_17_code
def yX5_isSuspicious : MethodName := ⟨RX5, "isSuspicious", "(III)Z"⟩
abbrev cX5_tiltRead : ByteArray := prog_7_method_18_code
def yX5_tiltRead : MethodName := ⟨RX5, "tiltRead", "(III)I"⟩
abbrev cX5_tiltTold : ByteArray := prog_7_method_19_code
def yX5_tiltTold : MethodName := ⟨RX5, "tiltTold", "(III)I"⟩
abbrev cX5_placeAt : ByteArray := prog_7_method_20_code
def yX5_placeAt : MethodName := ⟨RX5, "placeAt", "(III)I"⟩
abbrev cX5_copies : ByteArray := prog_7_method_21_code
def yX5_copies : MethodName := ⟨RX5, "copies", "(II)V"⟩
abbrev cX5_save : ByteArray := prog_7_method_22_code
def yX5_save : MethodName := ⟨RX5, "save", "()V"⟩
abbrev cX5_changed : ByteArray := prog_7_method_23_code
def yX5_changed : MethodName := ⟨RX5, "changed", "(II)I"⟩
abbrev cX5_bend : ByteArray := prog_7_method_24_code
def yX5_bend : MethodName := ⟨RX5, "bend", "(III)I"⟩
abbrev cX5_slide : ByteArray := prog_7_method_25_code
def yX5_slide : MethodName := ⟨RX5, "slide", "(III)I"⟩
abbrev cX5_turn : ByteArray := prog_7_method_26_code
def yX5_turn : MethodName := ⟨RX5, "turn", "(II)I"⟩
abbrev cX5_bias : ByteArray := prog_7_method_27_code
def yX5_bias : MethodName := ⟨RX5, "bias", "(II)I"⟩
abbrev cX5_set : ByteArray := prog_7_method_28_code
def yX5_set : MethodName := ⟨RX5, "set", "(II)I"⟩
abbrev cX5_pass : ByteArray := prog_7_method_29_code
def yX5_pass : MethodName := ⟨RX5, "pass", "(I)I"⟩
abbrev cX5_survey : ByteArray := prog_7_method_30_code
def yX5_survey : MethodName := ⟨RX5, "survey", "()I"⟩
abbrev cX5_drop : ByteArray := prog_7_method_31_code
def yX5_drop : MethodName := ⟨RX5, "drop", "()I"⟩
abbrev cX5_spoil : ByteArray := prog_7_method_32_code
def yX5_spoil : MethodName := ⟨RX5, "spoil", "(IIII)I"⟩
abbrev cX5_append : ByteArray := prog_7_method_33_code
def yX5_append : MethodName := ⟨RX5, "append", "(I)I"⟩
abbrev cX5_clearBuffer : ByteArray := prog_7_method_34_code
def yX5_clearBuffer : MethodName := ⟨RX5, "clearBuffer", "()I"⟩
abbrev cX5_sign : ByteArray := prog_7_method_35_code
def yX5_sign : MethodName := ⟨RX5, "sign", "()I"⟩
abbrev cX5_takes : ByteArray := prog_7_method_36_code
def yX5_takes : MethodName := ⟨RX5, "takes", "(I)Z"⟩
abbrev cX5_readsNumber : ByteArray := prog_7_method_37_code
def yX5_readsNumber : MethodName := ⟨RX5, "readsNumber", "(II)Z"⟩
abbrev cX5_readsReading : ByteArray := prog_7_method_38_code
def yX5_readsReading : MethodName := ⟨RX5, "readsReading", "()Z"⟩
abbrev cX5_areReadings : ByteArray := prog_7_method_39_code
def yX5_areReadings : MethodName := ⟨RX5, "areReadings", "()Z"⟩
abbrev cX5_firstError : ByteArray := prog_7_method_40_code
def yX5_firstError : MethodName := ⟨RX5, "firstError", "()I"⟩
abbrev cX5_load : ByteArray := prog_7_method_41_code
def yX5_load : MethodName := ⟨RX5, "load", "()I"⟩
abbrev cX5_keep : ByteArray := prog_7_method_42_code
def yX5_keep : MethodName := ⟨RX5, "keep", "(I)I"⟩
abbrev cX5_goBack : ByteArray := prog_7_method_43_code
def yX5_goBack : MethodName := ⟨RX5, "goBack", "(I)I"⟩
abbrev cX5_undo : ByteArray := prog_7_method_44_code
def yX5_undo : MethodName := ⟨RX5, "undo", "()I"⟩
abbrev cX5_ofLevel : ByteArray := prog_7_method_45_code
def yX5_ofLevel : MethodName := ⟨RX5, "ofLevel", "(II)I"⟩
abbrev cX5_levelOf : ByteArray := prog_7_method_46_code
def yX5_levelOf : MethodName := ⟨RX5, "levelOf", "(II)I"⟩
abbrev cX5_ofReading : ByteArray := prog_7_method_47_code
def yX5_ofReading : MethodName := ⟨RX5, "ofReading", "(IIII)I"⟩
abbrev cX5_reading : ByteArray := prog_7_method_48_code
def yX5_reading : MethodName := ⟨RX5, "reading", "(IIII)I"⟩
abbrev cX5_suspicious : ByteArray := prog_7_method_49_code
def yX5_suspicious : MethodName := ⟨RX5, "suspicious", "(I)I"⟩
abbrev cX5_worstLevel : ByteArray := prog_7_method_50_code
def yX5_worstLevel : MethodName := ⟨RX5, "worstLevel", "(I)I"⟩
abbrev cX5_ofSurvey : ByteArray := prog_7_method_51_code
def yX5_ofSurvey : MethodName := ⟨RX5, "ofSurvey", "(II)I"⟩
abbrev cX5_surveyOf : ByteArray := prog_7_method_52_code
def yX5_surveyOf : MethodName := ⟨RX5, "surveyOf", "(II)I"⟩
abbrev cX5_place : ByteArray := prog_7_method_53_code
def yX5_place : MethodName := ⟨RX5, "place", "(IIII)I"⟩
abbrev cX5_turned : ByteArray := prog_7_method_54_code
def yX5_turned : MethodName := ⟨RX5, "turned", "()I"⟩
abbrev cX5_counted : ByteArray := prog_7_method_55_code
def yX5_counted : MethodName := ⟨RX5, "counted", "(I)I"⟩
abbrev cX5_count : ByteArray := prog_7_method_56_code
def yX5_count : MethodName := ⟨RX5, "count", "(I)I"⟩
abbrev cX5_setting : ByteArray := prog_7_method_57_code
def yX5_setting : MethodName := ⟨RX5, "setting", "(I)I"⟩
abbrev cX5_arePair : ByteArray := prog_7_method_58_code
def yX5_arePair : MethodName := ⟨RX5, "arePair", "(III)Z"⟩
abbrev cX5_movedBy : ByteArray := prog_7_method_59_code
def yX5_movedBy : MethodName := ⟨RX5, "movedBy", "(IIII)I"⟩
abbrev cX5_moved : ByteArray := prog_7_method_60_code
def yX5_moved : MethodName := ⟨RX5, "moved", "(IIII)I"⟩
abbrev cX5_sliding : ByteArray := prog_7_method_61_code
def yX5_sliding : MethodName := ⟨RX5, "sliding", "(III)I"⟩
abbrev cX5_slidesAt : ByteArray := prog_7_method_62_code
def yX5_slidesAt : MethodName := ⟨RX5, "slidesAt", "(III)I"⟩
abbrev cX5_firstFar : ByteArray := prog_7_method_63_code
def yX5_firstFar : MethodName := ⟨RX5, "firstFar", "(IIII)I"⟩
abbrev cX5_firstMoved : ByteArray := prog_7_method_64_code
def yX5_firstMoved : MethodName := ⟨RX5, "firstMoved", "(IIII)I"⟩
abbrev cX5_rate : ByteArray := prog_7_method_65_code
def yX5_rate : MethodName := ⟨RX5, "rate", "(III)D"⟩
abbrev cX5_speed : ByteArray := prog_7_method_66_code
def yX5_speed : MethodName := ⟨RX5, "speed", "(III)D"⟩
abbrev cX5_checks : ByteArray := prog_7_method_67_code
def yX5_checks : MethodName := ⟨RX5, "checks", "(IIZ)I"⟩
abbrev cX5_mean : ByteArray := prog_7_method_68_code
def yX5_mean : MethodName := ⟨RX5, "mean", "(II)F"⟩
abbrev cX5_meanCheck : ByteArray := prog_7_method_69_code
def yX5_meanCheck : MethodName := ⟨RX5, "meanCheck", "(II)F"⟩
abbrev cX5_spreadOf : ByteArray := prog_7_method_70_code
def yX5_spreadOf : MethodName := ⟨RX5, "spreadOf", "(II)D"⟩
abbrev cX5_spread : ByteArray := prog_7_method_71_code
def yX5_spread : MethodName := ⟨RX5, "spread", "(II)D"⟩
abbrev cX5_mix : ByteArray := prog_7_method_72_code
def yX5_mix : MethodName := ⟨RX5, "mix", "(J)V"⟩
abbrev cX5_bits : ByteArray := prog_7_method_73_code
def yX5_bits : MethodName := ⟨RX5, "bits", "(DJJJ)J"⟩
abbrev cX5_doubleBits : ByteArray := prog_7_method_74_code
def yX5_doubleBits : MethodName := ⟨RX5, "doubleBits", "(D)J"⟩
abbrev cX5_mixSurvey : ByteArray := prog_7_method_75_code
def yX5_mixSurvey : MethodName := ⟨RX5, "mixSurvey", "(I)V"⟩
abbrev cX5_digest : ByteArray := prog_7_method_76_code
def yX5_digest : MethodName := ⟨RX5, "digest", "()J"⟩
def RL : String := "SlotProbeLaw"
abbrev cL_bend : ByteArray := method_3_code
def yL_bend : MethodName := ⟨RL, "bend", "(LSlotProbe;III[J)I"⟩
abbrev cL_slide : ByteArray := method_4_code
def yL_slide : MethodName := ⟨RL, "slide", "(LSlotProbe;III[J)I"⟩
abbrev cL_turn : ByteArray := method_5_code
def yL_turn : MethodName := ⟨RL, "turn", "(LSlotProbe;II[J)I"⟩
abbrev cL_bias : ByteArray := method_6_code
def yL_bias : MethodName := ⟨RL, "bias", "(LSlotProbe;II[J)I"⟩
abbrev cL_set : ByteArray := method_7_code
def yL_set : MethodName := ⟨RL, "set", "(LSlotProbe;II[J)I"⟩
abbrev cL_pass : ByteArray := method_8_code
def yL_pass : MethodName := ⟨RL, "pass", "(LSlotProbe;I[J)I"⟩
abbrev cL_survey : ByteArray := method_9_code
def yL_survey : MethodName := ⟨RL, "survey", "(LSlotProbe;[J)I"⟩
abbrev cL_drop : ByteArray := method_10_code
def yL_drop : MethodName := ⟨RL, "drop", "(LSlotProbe;[J)I"⟩
abbrev cL_spoil : ByteArray := method_11_code
def yL_spoil : MethodName := ⟨RL, "spoil", "(LSlotProbe;IIII[J)I"⟩
abbrev cL_append : ByteArray := method_12_code
def yL_append : MethodName := ⟨RL, "append", "(LSlotProbe;I[J)I"⟩
abbrev cL_load : ByteArray := method_13_code
def yL_load : MethodName := ⟨RL, "load", "(LSlotProbe;[J)I"⟩
abbrev cL_keep : ByteArray := method_14_code
def yL_keep : MethodName := ⟨RL, "keep", "(LSlotProbe;I[J)I"⟩
abbrev cL_goBack : ByteArray := method_15_code
def yL_goBack : MethodName := ⟨RL, "goBack", "(LSlotProbe;I[J)I"⟩
abbrev cL_undo : ByteArray := method_16_code
def yL_undo : MethodName := ⟨RL, "undo", "(LSlotProbe;[J)I"⟩
abbrev cL_levelOf : ByteArray := method_17_code
def yL_levelOf : MethodName := ⟨RL, "levelOf", "(LSlotProbe;II[J)I"⟩
abbrev cL_reading : ByteArray := method_18_code
def yL_reading : MethodName := ⟨RL, "reading", "(LSlotProbe;IIII[J)I"⟩
abbrev cL_surveyOf : ByteArray := method_19_code
def yL_surveyOf : MethodName := ⟨RL, "surveyOf", "(LSlotProbe;II[J)I"⟩
abbrev cL_place : ByteArray := method_20_code
def yL_place : MethodName := ⟨RL, "place", "(LSlotProbe;IIII[J)I"⟩
abbrev cL_count : ByteArray := method_21_code
def yL_count : MethodName := ⟨RL, "count", "(LSlotProbe;I[J)I"⟩
abbrev cL_setting : ByteArray := method_22_code
def yL_setting : MethodName := ⟨RL, "setting", "(LSlotProbe;I[J)I"⟩
abbrev cL_moved : ByteArray := method_23_code
def yL_moved : MethodName := ⟨RL, "moved", "(LSlotProbe;IIII[J)I"⟩
abbrev cL_slidesAt : ByteArray := method_24_code
def yL_slidesAt : MethodName := ⟨RL, "slidesAt", "(LSlotProbe;III[J)I"⟩
abbrev cL_firstMoved : ByteArray := method_25_code
def yL_firstMoved : MethodName := ⟨RL, "firstMoved", "(LSlotProbe;IIII[J)I"⟩
abbrev cL_speed : ByteArray := method_26_code
def yL_speed : MethodName := ⟨RL, "speed", "(LSlotProbe;III[D)I"⟩
abbrev cL_meanCheck : ByteArray := method_27_code
def yL_meanCheck : MethodName := ⟨RL, "meanCheck", "(LSlotProbe;II[D)I"⟩
abbrev cL_spread : ByteArray := method_28_code
def yL_spread : MethodName := ⟨RL, "spread", "(LSlotProbe;II[D)I"⟩
abbrev cL_law : ByteArray := code
def yL_law : MethodName := ⟨RL, "law", "([I)Z"⟩
abbrev gT : List Cond := lw_tbl.filter goodWord
abbrev ws_ (y : MethodName) (cd : ByteArray) (n : Nat) (rt : Option FieldType) : List Cond := .code y cd n rt :: gT
theorem gT_tbl : ∀ w ∈ gT, w ∈ lw_tbl := fun _ h => (List.mem_filter.mp h).1
theorem zgd {k w : Cond} (h : w ∈ gT) : w ∈ k :: gT ∧ ((w.onTables && w.keeps) = true ∨ ∃ ty, w = .arrayClass ty) := ⟨List.mem_cons_of_mem _ h, good_of_word (List.mem_filter.mp h).2⟩
theorem zgS {k : Cond} {own : String} {idx n : Nat} {y : MethodName} {cd : ByteArray} {rt : Option FieldType} (h1 : Cond.methodLink own idx y ∈ gT) (h2 : Cond.static y ∈ gT) (h3 : Cond.initialized y.cls ∈ gT) (h4 : Cond.code y cd n rt ∈ gT) : GoodIn (k :: gT) (va_wsS own idx y (ws_ y cd n rt)) := by
  intro w hw
  refine zgd ?_
  rcases List.mem_append.mp hw with h | h
  · simp only [List.mem_cons, List.not_mem_nil, or_false] at h
    rcases h with rfl | rfl | rfl
    · exact h1
    · exact h2
    · exact h3
  · rcases List.mem_cons.mp h with rfl | h
    · exact h4
    · exact h
theorem zgV {k : Cond} {own C : String} {idx n : Nat} {y : MethodName} {cd : ByteArray} {rt : Option FieldType} (h1 : Cond.methodLink own idx y ∈ gT) (h2 : Cond.instanceMethod y ∈ gT) (h3 : Cond.selects C y y ∈ gT) (h5 : Cond.initialized C ∈ gT) (h4 : Cond.code y cd n rt ∈ gT) : GoodIn (k :: gT) (wsV own idx C y (ws_ y cd n rt)) := by
  intro w hw
  refine zgd ?_
  rcases List.mem_append.mp hw with h | h
  · simp only [List.mem_cons, List.not_mem_nil, or_false] at h
    rcases h with rfl | rfl | rfl | rfl
    · exact h1
    · exact h2
    · exact h3
    · exact h5
  · rcases List.mem_cons.mp h with rfl | h
    · exact h4
    · exact h
theorem zgI {k : Cond} {n : Nat} {y : MethodName} {cd : ByteArray} {rt : Option FieldType} (h4 : Cond.code y cd n rt ∈ gT) : GoodIn (k :: gT) (ws_ y cd n rt) := by
  intro w hw
  refine zgd ?_
  rcases List.mem_cons.mp hw with rfl | h
  · exact h4
  · exact h

theorem tw_0 : Cond.code yX0_init cX0_init 1 none ∈ gT := List.mem_filter.mpr ⟨List.mem_append_right _ (List.mem_append_left _ (List.mem_of_getElem? (i := 100) rfl)), rfl⟩
theorem tw_1 : Cond.methodLink RX0 3 objectInit ∈ gT := List.mem_filter.mpr ⟨List.mem_append_right _ (List.mem_append_left _ (List.mem_of_getElem? (i := 101) rfl)), rfl⟩
theorem tw_2 : Cond.instanceMethod objectInit ∈ gT := List.mem_filter.mpr ⟨List.mem_append_right _ (List.mem_append_left _ (List.mem_of_getElem? (i := 21) rfl)), rfl⟩
theorem tw_3 : Cond.code objectInit ⟨#[0xb1]⟩ 1 none ∈ gT := List.mem_filter.mpr ⟨List.mem_append_right _ (List.mem_append_left _ (List.mem_of_getElem? (i := 22) rfl)), rfl⟩
theorem tw_4 : Cond.arrayClass .int ∈ gT := List.mem_filter.mpr ⟨List.mem_append_right _ (List.mem_append_left _ (List.mem_of_getElem? (i := 74) rfl)), rfl⟩
theorem tw_5 : Cond.fieldLink RX0 9 "SlotProbe$Findings" "commons" "[I" ∈ gT := List.mem_filter.mpr ⟨List.mem_append_right _ (List.mem_append_left _ (List.mem_of_getElem? (i := 102) rfl)), rfl⟩
theorem tw_6 : Cond.fieldLink RX0 15 "SlotProbe$Findings" "off" "[I" ∈ gT := List.mem_filter.mpr ⟨List.mem_append_right _ (List.mem_append_left _ (List.mem_of_getElem? (i := 104) rfl)), rfl⟩
theorem tw_7 : Cond.fieldLink RX0 18 "SlotProbe$Findings" "read" "[I" ∈ gT := List.mem_filter.mpr ⟨List.mem_append_right _ (List.mem_append_left _ (List.mem_of_getElem? (i := 106) rfl)), rfl⟩
theorem tw_8 : Cond.fieldLink RX0 21 "SlotProbe$Findings" "told" "[I" ∈ gT := List.mem_filter.mpr ⟨List.mem_append_right _ (List.mem_append_left _ (List.mem_of_getElem? (i := 108) rfl)), rfl⟩
theorem tw_9 : Cond.fieldLink RX0 24 "SlotProbe$Findings" "ordered" "[I" ∈ gT := List.mem_filter.mpr ⟨List.mem_append_right _ (List.mem_append_left _ (List.mem_of_getElem? (i := 110) rfl)), rfl⟩
theorem tw_10 : Cond.fieldLink RX0 27 "SlotProbe$Findings" "fresh" "Z" ∈ gT := List.mem_filter.mpr ⟨List.mem_append_right _ (List.mem_append_left _ (List.mem_of_getElem? (i := 111) rfl)), rfl⟩
theorem tw_11 : Cond.code yX0_workOut cX0_workOut 6 none ∈ gT := List.mem_filter.mpr ⟨List.mem_append_right _ (List.mem_append_right _ (List.mem_append_left _ (List.mem_of_getElem? (i := 123) rfl))), rfl⟩
theorem tw_12 : Cond.fieldLink RX0 31 "SlotProbe$State" "surveys" "I" ∈ gT := List.mem_filter.mpr ⟨List.mem_append_right _ (List.mem_append_left _ (List.mem_of_getElem? (i := 47) rfl)), rfl⟩
theorem tw_13 : Cond.methodLink RX0 49 Lib.Math.abs.name ∈ gT := List.mem_filter.mpr ⟨List.mem_append_right _ (List.mem_append_right _ (List.mem_append_left _ (List.mem_of_getElem? (i := 137) rfl))), rfl⟩
theorem tw_14 : Cond.static Lib.Math.abs.name ∈ gT := List.mem_filter.mpr ⟨List.mem_append_right _ (List.mem_append_right _ (List.mem_append_left _ (List.mem_of_getElem? (i := 138) rfl))), rfl⟩
theorem tw_15 : Cond.initialized "java/lang/Math" ∈ gT := List.mem_filter.mpr ⟨List.mem_append_right _ (List.mem_append_left _ (List.mem_of_getElem? (i := 13) rfl)), rfl⟩
theorem tw_16 : Cond.code Lib.Math.abs.name Lib.Math.abs.code 1 (some .int) ∈ gT := List.mem_filter.mpr ⟨List.mem_append_right _ (List.mem_append_right _ (List.mem_append_left _ (List.mem_of_getElem? (i := 139) rfl))), rfl⟩
theorem tw_17 : Cond.methodLink RX0 37 yX0_commonCheck ∈ gT := List.mem_filter.mpr ⟨List.mem_append_right _ (List.mem_append_right _ (List.mem_append_left _ (List.mem_of_getElem? (i := 124) rfl))), rfl⟩
theorem tw_18 : Cond.instanceMethod yX0_commonCheck ∈ gT := List.mem_filter.mpr ⟨List.mem_append_right _ (List.mem_append_right _ (List.mem_append_left _ (List.mem_of_getElem? (i := 125) rfl))), rfl⟩
theorem tw_19 : Cond.selects RX0 yX0_commonCheck yX0_commonCheck ∈ gT := List.mem_filter.mpr ⟨List.mem_append_right _ (List.mem_append_right _ (List.mem_append_left _ (List.mem_of_getElem? (i := 126) rfl))), rfl⟩
theorem tw_20 : Cond.initialized RX0 ∈ gT := List.mem_filter.mpr ⟨List.mem_append_right _ (List.mem_append_left _ (List.mem_of_getElem? (i := 4) rfl)), rfl⟩
theorem tw_21 : Cond.code yX0_commonCheck cX0_commonCheck 7 (some .int) ∈ gT := List.mem_filter.mpr ⟨List.mem_append_right _ (List.mem_append_right _ (List.mem_append_left _ (List.mem_of_getElem? (i := 127) rfl))), rfl⟩
theorem tw_22 : Cond.static yX4_checkOf ∈ gT := List.mem_filter.mpr ⟨List.mem_append_right _ (List.mem_append_right _ (List.mem_append_left _ (List.mem_of_getElem? (i := 129) rfl))), rfl⟩
theorem tw_23 : Cond.initialized RX4 ∈ gT := List.mem_filter.mpr ⟨List.mem_append_right _ (List.mem_append_left _ (List.mem_of_getElem? (i := 1) rfl)), rfl⟩
theorem tw_24 : Cond.code yX4_checkOf cX4_checkOf 5 (some .int) ∈ gT := List.mem_filter.mpr ⟨List.mem_append_right _ (List.mem_append_right _ (List.mem_append_left _ (List.mem_of_getElem? (i := 130) rfl))), rfl⟩
theorem tw_25 : Cond.fieldLink RX4 96 "SlotProbe$State" "readings" "[I" ∈ gT := List.mem_filter.mpr ⟨List.mem_append_right _ (List.mem_append_left _ (List.mem_of_getElem? (i := 41) rfl)), rfl⟩
theorem tw_26 : Cond.methodLink RX4 99 yX4_readingAt ∈ gT := List.mem_filter.mpr ⟨List.mem_append_right _ (List.mem_append_right _ (List.mem_append_left _ (List.mem_of_getElem? (i := 131) rfl))), rfl⟩
theorem tw_27 : Cond.static yX4_readingAt ∈ gT := List.mem_filter.mpr ⟨List.mem_append_right _ (List.mem_append_right _ (List.mem_append_left _ (List.mem_of_getElem? (i := 132) rfl))), rfl⟩
theorem tw_28 : Cond.code yX4_readingAt cX4_readingAt 4 (some .int) ∈ gT := List.mem_filter.mpr ⟨List.mem_append_right _ (List.mem_append_right _ (List.mem_append_left _ (List.mem_of_getElem? (i := 133) rfl))), rfl⟩
theorem tw_29 : Cond.static yX4_tiltAt ∈ gT := List.mem_filter.mpr ⟨List.mem_append_right _ (List.mem_append_right _ (List.mem_append_left _ (List.mem_of_getElem? (i := 135) rfl))), rfl⟩
theorem tw_30 : Cond.code yX4_tiltAt cX4_tiltAt 3 (some .int) ∈ gT := List.mem_filter.mpr ⟨List.mem_append_right _ (List.mem_append_right _ (List.mem_append_left _ (List.mem_of_getElem? (i := 136) rfl))), rfl⟩
theorem tw_31 : Cond.methodLink RX0 55 yX0_tiltRead ∈ gT := List.mem_filter.mpr ⟨List.mem_append_right _ (List.mem_append_right _ (List.mem_append_left _ (List.mem_of_getElem? (i := 140) rfl))), rfl⟩
theorem tw_32 : Cond.instanceMethod yX0_tiltRead ∈ gT := List.mem_filter.mpr ⟨List.mem_append_right _ (List.mem_append_right _ (List.mem_append_left _ (List.mem_of_getElem? (i := 141) rfl))), rfl⟩
theorem tw_33 : Cond.selects RX0 yX0_tiltRead yX0_tiltRead ∈ gT := List.mem_filter.mpr ⟨List.mem_append_right _ (List.mem_append_right _ (List.mem_append_left _ (List.mem_of_getElem? (i := 142) rfl))), rfl⟩
theorem tw_34 : Cond.code yX0_tiltRead cX0_tiltRead 12 (some .int) ∈ gT := List.mem_filter.mpr ⟨List.mem_append_right _ (List.mem_append_right _ (List.mem_append_left _ (List.mem_of_getElem? (i := 143) rfl))), rfl⟩
theorem tw_35 : Cond.fieldLink RX0 69 "SlotProbe$State" "readings" "[I" ∈ gT := List.mem_filter.mpr ⟨List.mem_append_right _ (List.mem_append_left _ (List.mem_of_getElem? (i := 40) rfl)), rfl⟩
theorem tw_36 : Cond.fieldLink RX0 62 "SlotProbe$State" "settings" "[I" ∈ gT := List.mem_filter.mpr ⟨List.mem_append_right _ (List.mem_append_left _ (List.mem_of_getElem? (i := 37) rfl)), rfl⟩
theorem tw_37 : Cond.methodLink RX0 72 yX0_isSuspicious ∈ gT := List.mem_filter.mpr ⟨List.mem_append_right _ (List.mem_append_right _ (List.mem_append_left _ (List.mem_of_getElem? (i := 145) rfl))), rfl⟩
theorem tw_38 : Cond.instanceMethod yX0_isSuspicious ∈ gT := List.mem_filter.mpr ⟨List.mem_append_right _ (List.mem_append_right _ (List.mem_append_left _ (List.mem_of_getElem? (i := 146) rfl))), rfl⟩
theorem tw_39 : Cond.selects RX0 yX0_isSuspicious yX0_isSuspicious ∈ gT := List.mem_filter.mpr ⟨List.mem_append_right _ (List.mem_append_right _ (List.mem_append_left _ (List.mem_of_getElem? (i := 147) rfl))), rfl⟩
theorem tw_40 : Cond.code yX0_isSuspicious cX0_isSuspicious 5 (some .boolean) ∈ gT := List.mem_filter.mpr ⟨List.mem_append_right _ (List.mem_append_right _ (List.mem_append_left _ (List.mem_of_getElem? (i := 148) rfl))), rfl⟩
theorem tw_41 : Cond.methodLink RX0 58 yX0_tellLevel ∈ gT := List.mem_filter.mpr ⟨List.mem_append_right _ (List.mem_append_right _ (List.mem_append_left _ (List.mem_of_getElem? (i := 149) rfl))), rfl⟩
theorem tw_42 : Cond.instanceMethod yX0_tellLevel ∈ gT := List.mem_filter.mpr ⟨List.mem_append_right _ (List.mem_append_right _ (List.mem_append_left _ (List.mem_of_getElem? (i := 150) rfl))), rfl⟩
theorem tw_43 : Cond.selects RX0 yX0_tellLevel yX0_tellLevel ∈ gT := List.mem_filter.mpr ⟨List.mem_append_right _ (List.mem_append_right _ (List.mem_append_left _ (List.mem_of_getElem? (i := 151) rfl))), rfl⟩
theorem tw_44 : Cond.code yX0_tellLevel cX0_tellLevel 7 none ∈ gT := List.mem_filter.mpr ⟨List.mem_append_right _ (List.mem_append_right _ (List.mem_append_left _ (List.mem_of_getElem? (i := 152) rfl))), rfl⟩
theorem tw_45 : Cond.fieldLink RX0 76 "SlotProbe$State" "turns" "[I" ∈ gT := List.mem_filter.mpr ⟨List.mem_append_right _ (List.mem_append_left _ (List.mem_of_getElem? (i := 33) rfl)), rfl⟩
theorem tw_46 : Cond.static yX4_turnedTilt ∈ gT := List.mem_filter.mpr ⟨List.mem_append_right _ (List.mem_append_right _ (List.mem_append_left _ (List.mem_of_getElem? (i := 110) rfl))), rfl⟩
theorem tw_47 : Cond.code yX4_turnedTilt cX4_turnedTilt 4 (some .int) ∈ gT := List.mem_filter.mpr ⟨List.mem_append_right _ (List.mem_append_right _ (List.mem_append_left _ (List.mem_of_getElem? (i := 111) rfl))), rfl⟩
theorem tw_48 : Cond.code yX1_init cX1_init 2 none ∈ gT := List.mem_filter.mpr ⟨List.mem_append_right _ (List.mem_append_left _ (List.mem_of_getElem? (i := 80) rfl)), rfl⟩
theorem tw_49 : Cond.methodLink RX1 3 objectInit ∈ gT := List.mem_filter.mpr ⟨List.mem_append_right _ (List.mem_append_left _ (List.mem_of_getElem? (i := 81) rfl)), rfl⟩
theorem tw_50 : Cond.classLink RX1 9 RX2 ∈ gT := List.mem_filter.mpr ⟨List.mem_append_right _ (List.mem_append_left _ (List.mem_of_getElem? (i := 82) rfl)), rfl⟩
theorem tw_51 : Cond.fieldLink RX1 11 "SlotProbe$History" "ring" "[LSlotProbe$State;" ∈ gT := List.mem_filter.mpr ⟨List.mem_append_right _ (List.mem_append_left _ (List.mem_of_getElem? (i := 84) rfl)), rfl⟩
theorem tw_52 : Cond.instantiable RX2 10 ∈ gT := List.mem_filter.mpr ⟨List.mem_append_right _ (List.mem_append_left _ (List.mem_of_getElem? (i := 24) rfl)), rfl⟩
theorem tw_53 : Cond.initialized RX2 ∈ gT := List.mem_filter.mpr ⟨List.mem_append_right _ (List.mem_append_left _ (List.mem_of_getElem? (i := 2) rfl)), rfl⟩
theorem tw_54 : Cond.fieldLink RX1 18 "SlotProbe$History" "oldest" "I" ∈ gT := List.mem_filter.mpr ⟨List.mem_append_right _ (List.mem_append_left _ (List.mem_of_getElem? (i := 85) rfl)), rfl⟩
theorem tw_55 : Cond.fieldLink RX1 22 "SlotProbe$History" "saved" "I" ∈ gT := List.mem_filter.mpr ⟨List.mem_append_right _ (List.mem_append_left _ (List.mem_of_getElem? (i := 86) rfl)), rfl⟩
theorem tw_56 : Cond.methodLink RX1 17 yX2_init ∈ gT := List.mem_filter.mpr ⟨List.mem_append_right _ (List.mem_append_left _ (List.mem_of_getElem? (i := 83) rfl)), rfl⟩
theorem tw_57 : Cond.instanceMethod yX2_init ∈ gT := List.mem_filter.mpr ⟨List.mem_append_right _ (List.mem_append_left _ (List.mem_of_getElem? (i := 26) rfl)), rfl⟩
theorem tw_58 : Cond.code yX2_init cX2_init 1 none ∈ gT := List.mem_filter.mpr ⟨List.mem_append_right _ (List.mem_append_left _ (List.mem_of_getElem? (i := 27) rfl)), rfl⟩
theorem tw_59 : Cond.methodLink RX2 3 objectInit ∈ gT := List.mem_filter.mpr ⟨List.mem_append_right _ (List.mem_append_left _ (List.mem_of_getElem? (i := 28) rfl)), rfl⟩
theorem tw_60 : Cond.fieldLink RX2 9 "SlotProbe$State" "tilts" "[I" ∈ gT := List.mem_filter.mpr ⟨List.mem_append_right _ (List.mem_append_left _ (List.mem_of_getElem? (i := 29) rfl)), rfl⟩
theorem tw_61 : Cond.fieldLink RX2 15 "SlotProbe$State" "turns" "[I" ∈ gT := List.mem_filter.mpr ⟨List.mem_append_right _ (List.mem_append_left _ (List.mem_of_getElem? (i := 31) rfl)), rfl⟩
theorem tw_62 : Cond.fieldLink RX2 18 "SlotProbe$State" "biases" "[I" ∈ gT := List.mem_filter.mpr ⟨List.mem_append_right _ (List.mem_append_left _ (List.mem_of_getElem? (i := 34) rfl)), rfl⟩
theorem tw_63 : Cond.fieldLink RX2 21 "SlotProbe$State" "settings" "[I" ∈ gT := List.mem_filter.mpr ⟨List.mem_append_right _ (List.mem_append_left _ (List.mem_of_getElem? (i := 36) rfl)), rfl⟩
theorem tw_64 : Cond.fieldLink RX2 24 "SlotProbe$State" "readings" "[I" ∈ gT := List.mem_filter.mpr ⟨List.mem_append_right _ (List.mem_append_left _ (List.mem_of_getElem? (i := 39) rfl)), rfl⟩
theorem tw_65 : Cond.fieldLink RX2 27 "SlotProbe$State" "days" "[I" ∈ gT := List.mem_filter.mpr ⟨List.mem_append_right _ (List.mem_append_left _ (List.mem_of_getElem? (i := 42) rfl)), rfl⟩
theorem tw_66 : Cond.fieldLink RX2 30 "SlotProbe$State" "day" "I" ∈ gT := List.mem_filter.mpr ⟨List.mem_append_right _ (List.mem_append_left _ (List.mem_of_getElem? (i := 44) rfl)), rfl⟩
theorem tw_67 : Cond.fieldLink RX2 34 "SlotProbe$State" "surveys" "I" ∈ gT := List.mem_filter.mpr ⟨List.mem_append_right _ (List.mem_append_left _ (List.mem_of_getElem? (i := 46) rfl)), rfl⟩
theorem tw_68 : Cond.fieldLink RX2 37 "SlotProbe$State" "surveysTaken" "I" ∈ gT := List.mem_filter.mpr ⟨List.mem_append_right _ (List.mem_append_left _ (List.mem_of_getElem? (i := 49) rfl)), rfl⟩
theorem tw_69 : Cond.fieldLink RX2 40 "SlotProbe$State" "readingsSpoiled" "I" ∈ gT := List.mem_filter.mpr ⟨List.mem_append_right _ (List.mem_append_left _ (List.mem_of_getElem? (i := 51) rfl)), rfl⟩
theorem tw_70 : Cond.code yX1_save cX1_save 2 none ∈ gT := List.mem_filter.mpr ⟨List.mem_append_right _ (List.mem_append_right _ (List.mem_append_right _ (List.mem_append_left _ (List.mem_of_getElem? (i := 1) rfl)))), rfl⟩
theorem tw_71 : Cond.methodLink RX1 25 yX2_become ∈ gT := List.mem_filter.mpr ⟨List.mem_append_right _ (List.mem_append_right _ (List.mem_append_right _ (List.mem_append_left _ (List.mem_of_getElem? (i := 2) rfl)))), rfl⟩
theorem tw_72 : Cond.instanceMethod yX2_become ∈ gT := List.mem_filter.mpr ⟨List.mem_append_right _ (List.mem_append_right _ (List.mem_append_right _ (List.mem_append_left _ (List.mem_of_getElem? (i := 3) rfl)))), rfl⟩
theorem tw_73 : Cond.selects RX2 yX2_become yX2_become ∈ gT := List.mem_filter.mpr ⟨List.mem_append_right _ (List.mem_append_right _ (List.mem_append_right _ (List.mem_append_left _ (List.mem_of_getElem? (i := 4) rfl)))), rfl⟩
theorem tw_74 : Cond.code yX2_become cX2_become 2 none ∈ gT := List.mem_filter.mpr ⟨List.mem_append_right _ (List.mem_append_right _ (List.mem_append_right _ (List.mem_append_left _ (List.mem_of_getElem? (i := 5) rfl)))), rfl⟩
theorem tw_75 : Cond.methodLink RX2 43 arraycopyName ∈ gT := List.mem_filter.mpr ⟨List.mem_append_right _ (List.mem_append_right _ (List.mem_append_right _ (List.mem_append_left _ (List.mem_of_getElem? (i := 6) rfl)))), rfl⟩
theorem tw_76 : Cond.native arraycopyName ∈ gT := List.mem_filter.mpr ⟨List.mem_append_right _ (List.mem_append_right _ (List.mem_append_right _ (List.mem_append_left _ (List.mem_of_getElem? (i := 8) rfl)))), rfl⟩
theorem tw_77 : Cond.static arraycopyName ∈ gT := List.mem_filter.mpr ⟨List.mem_append_right _ (List.mem_append_right _ (List.mem_append_right _ (List.mem_append_left _ (List.mem_of_getElem? (i := 7) rfl)))), rfl⟩
theorem tw_78 : Cond.initialized "java/lang/System" ∈ gT := List.mem_filter.mpr ⟨List.mem_append_right _ (List.mem_append_left _ (List.mem_of_getElem? (i := 12) rfl)), rfl⟩
theorem tw_79 : Cond.code yX1_bringBack cX1_bringBack 2 none ∈ gT := List.mem_filter.mpr ⟨List.mem_append_right _ (List.mem_append_right _ (List.mem_append_right _ (List.mem_append_left _ (List.mem_of_getElem? (i := 151) rfl)))), rfl⟩
theorem tw_80 : Cond.code yX3_init cX3_init 1 none ∈ gT := List.mem_filter.mpr ⟨List.mem_append_right _ (List.mem_append_left _ (List.mem_of_getElem? (i := 130) rfl)), rfl⟩
theorem tw_81 : Cond.methodLink RX3 3 objectInit ∈ gT := List.mem_filter.mpr ⟨List.mem_append_right _ (List.mem_append_left _ (List.mem_of_getElem? (i := 131) rfl)), rfl⟩
theorem tw_82 : Cond.fieldLink RX3 11 "SlotProbe$TextReader" "step" "I" ∈ gT := List.mem_filter.mpr ⟨List.mem_append_right _ (List.mem_append_left _ (List.mem_of_getElem? (i := 132) rfl)), rfl⟩
theorem tw_83 : Cond.fieldLink RX3 15 "SlotProbe$TextReader" "level" "I" ∈ gT := List.mem_filter.mpr ⟨List.mem_append_right _ (List.mem_append_left _ (List.mem_of_getElem? (i := 133) rfl)), rfl⟩
theorem tw_84 : Cond.fieldLink RX3 18 "SlotProbe$TextReader" "own" "I" ∈ gT := List.mem_filter.mpr ⟨List.mem_append_right _ (List.mem_append_left _ (List.mem_of_getElem? (i := 135) rfl)), rfl⟩
theorem tw_85 : Cond.fieldLink RX3 21 "SlotProbe$TextReader" "face" "I" ∈ gT := List.mem_filter.mpr ⟨List.mem_append_right _ (List.mem_append_left _ (List.mem_of_getElem? (i := 137) rfl)), rfl⟩
theorem tw_86 : Cond.fieldLink RX3 24 "SlotProbe$TextReader" "number" "I" ∈ gT := List.mem_filter.mpr ⟨List.mem_append_right _ (List.mem_append_left _ (List.mem_of_getElem? (i := 139) rfl)), rfl⟩
theorem tw_87 : Cond.fieldLink RX3 27 "SlotProbe$TextReader" "below" "Z" ∈ gT := List.mem_filter.mpr ⟨List.mem_append_right _ (List.mem_append_left _ (List.mem_of_getElem? (i := 140) rfl)), rfl⟩
theorem tw_88 : Cond.code yX3_begin cX3_begin 1 none ∈ gT := List.mem_filter.mpr ⟨List.mem_append_right _ (List.mem_append_left _ (List.mem_of_getElem? (i := 191) rfl)), rfl⟩
theorem tw_89 : Cond.code yX3_mayEnd cX3_mayEnd 1 (some .boolean) ∈ gT := List.mem_filter.mpr ⟨List.mem_append_right _ (List.mem_append_right _ (List.mem_append_right _ (List.mem_append_left _ (List.mem_of_getElem? (i := 113) rfl)))), rfl⟩
theorem tw_90 : Cond.code yX3_readingTold cX3_readingTold 1 (some .int) ∈ gT := List.mem_filter.mpr ⟨List.mem_append_right _ (List.mem_append_right _ (List.mem_append_right _ (List.mem_append_left _ (List.mem_of_getElem? (i := 125) rfl)))), rfl⟩
theorem tw_91 : Cond.code yX3_takes cX3_takes 2 (some .boolean) ∈ gT := List.mem_filter.mpr ⟨List.mem_append_right _ (List.mem_append_left _ (List.mem_of_getElem? (i := 195) rfl)), rfl⟩
theorem tw_92 : Cond.methodLink RX3 31 yX3_takesFirstOfLevel ∈ gT := List.mem_filter.mpr ⟨List.mem_append_right _ (List.mem_append_left _ (List.mem_of_getElem? (i := 196) rfl)), rfl⟩
theorem tw_93 : Cond.instanceMethod yX3_takesFirstOfLevel ∈ gT := List.mem_filter.mpr ⟨List.mem_append_right _ (List.mem_append_left _ (List.mem_of_getElem? (i := 197) rfl)), rfl⟩
theorem tw_94 : Cond.selects RX3 yX3_takesFirstOfLevel yX3_takesFirstOfLevel ∈ gT := List.mem_filter.mpr ⟨List.mem_append_right _ (List.mem_append_left _ (List.mem_of_getElem? (i := 198) rfl)), rfl⟩
theorem tw_95 : Cond.initialized RX3 ∈ gT := List.mem_filter.mpr ⟨List.mem_append_right _ (List.mem_append_left _ (List.mem_of_getElem? (i := 5) rfl)), rfl⟩
theorem tw_96 : Cond.code yX3_takesFirstOfLevel cX3_takesFirstOfLevel 2 (some .boolean) ∈ gT := List.mem_filter.mpr ⟨List.mem_append_right _ (List.mem_append_left _ (List.mem_of_getElem? (i := 199) rfl)), rfl⟩
theorem tw_97 : Cond.methodLink RX3 53 yX3_isDigit ∈ gT := List.mem_filter.mpr ⟨List.mem_append_right _ (List.mem_append_left _ (List.mem_of_getElem? (i := 200) rfl)), rfl⟩
theorem tw_98 : Cond.static yX3_isDigit ∈ gT := List.mem_filter.mpr ⟨List.mem_append_right _ (List.mem_append_left _ (List.mem_of_getElem? (i := 201) rfl)), rfl⟩
theorem tw_99 : Cond.code yX3_isDigit cX3_isDigit 1 (some .boolean) ∈ gT := List.mem_filter.mpr ⟨List.mem_append_right _ (List.mem_append_left _ (List.mem_of_getElem? (i := 202) rfl)), rfl⟩
theorem tw_100 : Cond.methodLink RX3 35 yX3_takesInLevel ∈ gT := List.mem_filter.mpr ⟨List.mem_append_right _ (List.mem_append_left _ (List.mem_of_getElem? (i := 203) rfl)), rfl⟩
theorem tw_101 : Cond.instanceMethod yX3_takesInLevel ∈ gT := List.mem_filter.mpr ⟨List.mem_append_right _ (List.mem_append_left _ (List.mem_of_getElem? (i := 204) rfl)), rfl⟩
theorem tw_102 : Cond.selects RX3 yX3_takesInLevel yX3_takesInLevel ∈ gT := List.mem_filter.mpr ⟨List.mem_append_right _ (List.mem_append_left _ (List.mem_of_getElem? (i := 205) rfl)), rfl⟩
theorem tw_103 : Cond.code yX3_takesInLevel cX3_takesInLevel 2 (some .boolean) ∈ gT := List.mem_filter.mpr ⟨List.mem_append_right _ (List.mem_append_left _ (List.mem_of_getElem? (i := 206) rfl)), rfl⟩
theorem tw_104 : Cond.methodLink RX3 38 yX3_takesFace ∈ gT := List.mem_filter.mpr ⟨List.mem_append_right _ (List.mem_append_left _ (List.mem_of_getElem? (i := 207) rfl)), rfl⟩
theorem tw_105 : Cond.instanceMethod yX3_takesFace ∈ gT := List.mem_filter.mpr ⟨List.mem_append_right _ (List.mem_append_left _ (List.mem_of_getElem? (i := 208) rfl)), rfl⟩
theorem tw_106 : Cond.selects RX3 yX3_takesFace yX3_takesFace ∈ gT := List.mem_filter.mpr ⟨List.mem_append_right _ (List.mem_append_left _ (List.mem_of_getElem? (i := 209) rfl)), rfl⟩
theorem tw_107 : Cond.code yX3_takesFace cX3_takesFace 2 (some .boolean) ∈ gT := List.mem_filter.mpr ⟨List.mem_append_right _ (List.mem_append_left _ (List.mem_of_getElem? (i := 210) rfl)), rfl⟩
theorem tw_108 : Cond.methodLink RX3 41 yX3_takesEquals ∈ gT := List.mem_filter.mpr ⟨List.mem_append_right _ (List.mem_append_left _ (List.mem_of_getElem? (i := 211) rfl)), rfl⟩
theorem tw_109 : Cond.instanceMethod yX3_takesEquals ∈ gT := List.mem_filter.mpr ⟨List.mem_append_right _ (List.mem_append_left _ (List.mem_of_getElem? (i := 212) rfl)), rfl⟩
theorem tw_110 : Cond.selects RX3 yX3_takesEquals yX3_takesEquals ∈ gT := List.mem_filter.mpr ⟨List.mem_append_right _ (List.mem_append_left _ (List.mem_of_getElem? (i := 213) rfl)), rfl⟩
theorem tw_111 : Cond.code yX3_takesEquals cX3_takesEquals 2 (some .boolean) ∈ gT := List.mem_filter.mpr ⟨List.mem_append_right _ (List.mem_append_left _ (List.mem_of_getElem? (i := 214) rfl)), rfl⟩
theorem tw_112 : Cond.methodLink RX3 44 yX3_takesFirstOfReading ∈ gT := List.mem_filter.mpr ⟨List.mem_append_right _ (List.mem_append_left _ (List.mem_of_getElem? (i := 215) rfl)), rfl⟩
theorem tw_113 : Cond.instanceMethod yX3_takesFirstOfReading ∈ gT := List.mem_filter.mpr ⟨List.mem_append_right _ (List.mem_append_left _ (List.mem_of_getElem? (i := 216) rfl)), rfl⟩
theorem tw_114 : Cond.selects RX3 yX3_takesFirstOfReading yX3_takesFirstOfReading ∈ gT := List.mem_filter.mpr ⟨List.mem_append_right _ (List.mem_append_left _ (List.mem_of_getElem? (i := 217) rfl)), rfl⟩
theorem tw_115 : Cond.code yX3_takesFirstOfReading cX3_takesFirstOfReading 2 (some .boolean) ∈ gT := List.mem_filter.mpr ⟨List.mem_append_right _ (List.mem_append_left _ (List.mem_of_getElem? (i := 218) rfl)), rfl⟩
theorem tw_116 : Cond.methodLink RX3 47 yX3_takesFirstOfNumber ∈ gT := List.mem_filter.mpr ⟨List.mem_append_right _ (List.mem_append_left _ (List.mem_of_getElem? (i := 219) rfl)), rfl⟩
theorem tw_117 : Cond.instanceMethod yX3_takesFirstOfNumber ∈ gT := List.mem_filter.mpr ⟨List.mem_append_right _ (List.mem_append_left _ (List.mem_of_getElem? (i := 220) rfl)), rfl⟩
theorem tw_118 : Cond.selects RX3 yX3_takesFirstOfNumber yX3_takesFirstOfNumber ∈ gT := List.mem_filter.mpr ⟨List.mem_append_right _ (List.mem_append_left _ (List.mem_of_getElem? (i := 221) rfl)), rfl⟩
theorem tw_119 : Cond.code yX3_takesFirstOfNumber cX3_takesFirstOfNumber 2 (some .boolean) ∈ gT := List.mem_filter.mpr ⟨List.mem_append_right _ (List.mem_append_left _ (List.mem_of_getElem? (i := 222) rfl)), rfl⟩
theorem tw_120 : Cond.methodLink RX3 50 yX3_takesInNumber ∈ gT := List.mem_filter.mpr ⟨List.mem_append_right _ (List.mem_append_left _ (List.mem_of_getElem? (i := 223) rfl)), rfl⟩
theorem tw_121 : Cond.instanceMethod yX3_takesInNumber ∈ gT := List.mem_filter.mpr ⟨List.mem_append_right _ (List.mem_append_left _ (List.mem_of_getElem? (i := 224) rfl)), rfl⟩
theorem tw_122 : Cond.selects RX3 yX3_takesInNumber yX3_takesInNumber ∈ gT := List.mem_filter.mpr ⟨List.mem_append_right _ (List.mem_append_left _ (List.mem_of_getElem? (i := 225) rfl)), rfl⟩
theorem tw_123 : Cond.code yX3_takesInNumber cX3_takesInNumber 2 (some .boolean) ∈ gT := List.mem_filter.mpr ⟨List.mem_append_right _ (List.mem_append_left _ (List.mem_of_getElem? (i := 226) rfl)), rfl⟩
theorem tw_124 : Cond.code yX4_init cX4_init 2 none ∈ gT := List.mem_filter.mpr ⟨List.mem_append_right _ (List.mem_append_left _ (List.mem_of_getElem? (i := 19) rfl)), rfl⟩
theorem tw_125 : Cond.methodLink RX4 3 objectInit ∈ gT := List.mem_filter.mpr ⟨List.mem_append_right _ (List.mem_append_left _ (List.mem_of_getElem? (i := 20) rfl)), rfl⟩
theorem tw_126 : Cond.classLink RX4 9 RX2 ∈ gT := List.mem_filter.mpr ⟨List.mem_append_right _ (List.mem_append_left _ (List.mem_of_getElem? (i := 23) rfl)), rfl⟩
theorem tw_127 : Cond.fieldLink RX4 12 "SlotProbe" "now" "LSlotProbe$State;" ∈ gT := List.mem_filter.mpr ⟨List.mem_append_right _ (List.mem_append_left _ (List.mem_of_getElem? (i := 154) rfl)), rfl⟩
theorem tw_128 : Cond.fieldLink RX4 16 "SlotProbe" "slots" "[LSlotProbe$State;" ∈ gT := List.mem_filter.mpr ⟨List.mem_append_right _ (List.mem_append_left _ (List.mem_of_getElem? (i := 155) rfl)), rfl⟩
theorem tw_129 : Cond.arrayClass .boolean ∈ gT := List.mem_filter.mpr ⟨List.mem_append_right _ (List.mem_append_left _ (List.mem_of_getElem? (i := 95) rfl)), rfl⟩
theorem tw_130 : Cond.fieldLink RX4 20 "SlotProbe" "slotHolds" "[Z" ∈ gT := List.mem_filter.mpr ⟨List.mem_append_right _ (List.mem_append_left _ (List.mem_of_getElem? (i := 156) rfl)), rfl⟩
theorem tw_131 : Cond.classLink RX4 24 RX1 ∈ gT := List.mem_filter.mpr ⟨List.mem_append_right _ (List.mem_append_left _ (List.mem_of_getElem? (i := 76) rfl)), rfl⟩
theorem tw_132 : Cond.instantiable RX1 3 ∈ gT := List.mem_filter.mpr ⟨List.mem_append_right _ (List.mem_append_left _ (List.mem_of_getElem? (i := 77) rfl)), rfl⟩
theorem tw_133 : Cond.initialized RX1 ∈ gT := List.mem_filter.mpr ⟨List.mem_append_right _ (List.mem_append_left _ (List.mem_of_getElem? (i := 3) rfl)), rfl⟩
theorem tw_134 : Cond.fieldLink RX4 27 "SlotProbe" "history" "LSlotProbe$History;" ∈ gT := List.mem_filter.mpr ⟨List.mem_append_right _ (List.mem_append_left _ (List.mem_of_getElem? (i := 157) rfl)), rfl⟩
theorem tw_135 : Cond.classLink RX4 31 RX0 ∈ gT := List.mem_filter.mpr ⟨List.mem_append_right _ (List.mem_append_left _ (List.mem_of_getElem? (i := 96) rfl)), rfl⟩
theorem tw_136 : Cond.instantiable RX0 6 ∈ gT := List.mem_filter.mpr ⟨List.mem_append_right _ (List.mem_append_left _ (List.mem_of_getElem? (i := 97) rfl)), rfl⟩
theorem tw_137 : Cond.fieldLink RX4 34 "SlotProbe" "findings" "LSlotProbe$Findings;" ∈ gT := List.mem_filter.mpr ⟨List.mem_append_right _ (List.mem_append_left _ (List.mem_of_getElem? (i := 158) rfl)), rfl⟩
theorem tw_138 : Cond.classLink RX4 38 RX3 ∈ gT := List.mem_filter.mpr ⟨List.mem_append_right _ (List.mem_append_left _ (List.mem_of_getElem? (i := 126) rfl)), rfl⟩
theorem tw_139 : Cond.instantiable RX3 6 ∈ gT := List.mem_filter.mpr ⟨List.mem_append_right _ (List.mem_append_left _ (List.mem_of_getElem? (i := 127) rfl)), rfl⟩
theorem tw_140 : Cond.fieldLink RX4 41 "SlotProbe" "reader" "LSlotProbe$TextReader;" ∈ gT := List.mem_filter.mpr ⟨List.mem_append_right _ (List.mem_append_left _ (List.mem_of_getElem? (i := 159) rfl)), rfl⟩
theorem tw_141 : Cond.arrayClass .char ∈ gT := List.mem_filter.mpr ⟨List.mem_append_right _ (List.mem_append_left _ (List.mem_of_getElem? (i := 179) rfl)), rfl⟩
theorem tw_142 : Cond.fieldLink RX4 45 "SlotProbe" "buffer" "[C" ∈ gT := List.mem_filter.mpr ⟨List.mem_append_right _ (List.mem_append_left _ (List.mem_of_getElem? (i := 160) rfl)), rfl⟩
theorem tw_143 : Cond.fieldLink RX4 49 "SlotProbe" "bufferLength" "I" ∈ gT := List.mem_filter.mpr ⟨List.mem_append_right _ (List.mem_append_left _ (List.mem_of_getElem? (i := 161) rfl)), rfl⟩
theorem tw_144 : Cond.methodLink RX4 11 yX2_init ∈ gT := List.mem_filter.mpr ⟨List.mem_append_right _ (List.mem_append_left _ (List.mem_of_getElem? (i := 25) rfl)), rfl⟩
theorem tw_145 : Cond.methodLink RX4 26 yX1_init ∈ gT := List.mem_filter.mpr ⟨List.mem_append_right _ (List.mem_append_left _ (List.mem_of_getElem? (i := 78) rfl)), rfl⟩
theorem tw_146 : Cond.instanceMethod yX1_init ∈ gT := List.mem_filter.mpr ⟨List.mem_append_right _ (List.mem_append_left _ (List.mem_of_getElem? (i := 79) rfl)), rfl⟩
theorem tw_147 : Cond.methodLink RX4 33 yX0_init ∈ gT := List.mem_filter.mpr ⟨List.mem_append_right _ (List.mem_append_left _ (List.mem_of_getElem? (i := 98) rfl)), rfl⟩
theorem tw_148 : Cond.instanceMethod yX0_init ∈ gT := List.mem_filter.mpr ⟨List.mem_append_right _ (List.mem_append_left _ (List.mem_of_getElem? (i := 99) rfl)), rfl⟩
theorem tw_149 : Cond.methodLink RX4 40 yX3_init ∈ gT := List.mem_filter.mpr ⟨List.mem_append_right _ (List.mem_append_left _ (List.mem_of_getElem? (i := 128) rfl)), rfl⟩
theorem tw_150 : Cond.instanceMethod yX3_init ∈ gT := List.mem_filter.mpr ⟨List.mem_append_right _ (List.mem_append_left _ (List.mem_of_getElem? (i := 129) rfl)), rfl⟩
theorem tw_151 : Cond.code yX4_bend cX4_bend 5 (some .int) ∈ gT := List.mem_filter.mpr ⟨List.mem_append_right _ (List.mem_append_right _ (List.mem_append_left _ (List.mem_of_getElem? (i := 233) rfl))), rfl⟩
theorem tw_152 : Cond.fieldLink RX4 64 "SlotProbe$State" "tilts" "[I" ∈ gT := List.mem_filter.mpr ⟨List.mem_append_right _ (List.mem_append_left _ (List.mem_of_getElem? (i := 30) rfl)), rfl⟩
theorem tw_153 : Cond.methodLink RX4 53 yX4_needIndex ∈ gT := List.mem_filter.mpr ⟨List.mem_append_right _ (List.mem_append_right _ (List.mem_append_left _ (List.mem_of_getElem? (i := 86) rfl))), rfl⟩
theorem tw_154 : Cond.static yX4_needIndex ∈ gT := List.mem_filter.mpr ⟨List.mem_append_right _ (List.mem_append_right _ (List.mem_append_left _ (List.mem_of_getElem? (i := 87) rfl))), rfl⟩
theorem tw_155 : Cond.code yX4_needIndex cX4_needIndex 2 none ∈ gT := List.mem_filter.mpr ⟨List.mem_append_right _ (List.mem_append_right _ (List.mem_append_left _ (List.mem_of_getElem? (i := 88) rfl))), rfl⟩
theorem tw_156 : Cond.classLink RX4 233 "java/lang/IndexOutOfBoundsException" ∈ gT := List.mem_filter.mpr ⟨List.mem_append_right _ (List.mem_append_right _ (List.mem_append_left _ (List.mem_of_getElem? (i := 89) rfl))), rfl⟩
theorem tw_157 : Cond.initialized "java/lang/IndexOutOfBoundsException" ∈ gT := List.mem_filter.mpr ⟨List.mem_append_right _ (List.mem_append_left _ (List.mem_of_getElem? (i := 10) rfl)), rfl⟩
theorem tw_158 : Cond.methodLink RX4 57 yX4_needRange ∈ gT := List.mem_filter.mpr ⟨List.mem_append_right _ (List.mem_append_right _ (List.mem_append_left _ (List.mem_of_getElem? (i := 0) rfl))), rfl⟩
theorem tw_159 : Cond.static yX4_needRange ∈ gT := List.mem_filter.mpr ⟨List.mem_append_right _ (List.mem_append_right _ (List.mem_append_left _ (List.mem_of_getElem? (i := 1) rfl))), rfl⟩
theorem tw_160 : Cond.code yX4_needRange cX4_needRange 3 none ∈ gT := List.mem_filter.mpr ⟨List.mem_append_right _ (List.mem_append_right _ (List.mem_append_left _ (List.mem_of_getElem? (i := 2) rfl))), rfl⟩
theorem tw_161 : Cond.classLink RX4 240 "java/lang/IllegalArgumentException" ∈ gT := List.mem_filter.mpr ⟨List.mem_append_right _ (List.mem_append_right _ (List.mem_append_left _ (List.mem_of_getElem? (i := 6) rfl))), rfl⟩
theorem tw_162 : Cond.initialized "java/lang/IllegalArgumentException" ∈ gT := List.mem_filter.mpr ⟨List.mem_append_right _ (List.mem_append_left _ (List.mem_of_getElem? (i := 11) rfl)), rfl⟩
theorem tw_163 : Cond.methodLink RX4 113 yX4_isWithin ∈ gT := List.mem_filter.mpr ⟨List.mem_append_right _ (List.mem_append_right _ (List.mem_append_left _ (List.mem_of_getElem? (i := 3) rfl))), rfl⟩
theorem tw_164 : Cond.static yX4_isWithin ∈ gT := List.mem_filter.mpr ⟨List.mem_append_right _ (List.mem_append_right _ (List.mem_append_left _ (List.mem_of_getElem? (i := 4) rfl))), rfl⟩
theorem tw_165 : Cond.code yX4_isWithin cX4_isWithin 3 (some .boolean) ∈ gT := List.mem_filter.mpr ⟨List.mem_append_right _ (List.mem_append_right _ (List.mem_append_left _ (List.mem_of_getElem? (i := 5) rfl))), rfl⟩
theorem tw_166 : Cond.methodLink RX4 61 yX4_beginChange ∈ gT := List.mem_filter.mpr ⟨List.mem_append_right _ (List.mem_append_right _ (List.mem_append_left _ (List.mem_of_getElem? (i := 234) rfl))), rfl⟩
theorem tw_167 : Cond.instanceMethod yX4_beginChange ∈ gT := List.mem_filter.mpr ⟨List.mem_append_right _ (List.mem_append_right _ (List.mem_append_left _ (List.mem_of_getElem? (i := 236) rfl))), rfl⟩
theorem tw_168 : Cond.selects RX4 yX4_beginChange yX4_beginChange ∈ gT := List.mem_filter.mpr ⟨List.mem_append_left _ (List.mem_of_getElem? (i := 11) rfl), rfl⟩
theorem tw_169 : Cond.code yX4_beginChange cX4_beginChange 1 none ∈ gT := List.mem_filter.mpr ⟨List.mem_append_right _ (List.mem_append_right _ (List.mem_append_left _ (List.mem_of_getElem? (i := 237) rfl))), rfl⟩
theorem tw_170 : Cond.fieldLink RX4 148 "SlotProbe$Findings" "fresh" "Z" ∈ gT := List.mem_filter.mpr ⟨List.mem_append_right _ (List.mem_append_left _ (List.mem_of_getElem? (i := 112) rfl)), rfl⟩
theorem tw_171 : Cond.methodLink RX4 252 yX1_save ∈ gT := List.mem_filter.mpr ⟨List.mem_append_right _ (List.mem_append_right _ (List.mem_append_left _ (List.mem_of_getElem? (i := 238) rfl))), rfl⟩
theorem tw_172 : Cond.instanceMethod yX1_save ∈ gT := List.mem_filter.mpr ⟨List.mem_append_right _ (List.mem_append_right _ (List.mem_append_left _ (List.mem_of_getElem? (i := 239) rfl))), rfl⟩
theorem tw_173 : Cond.selects RX1 yX1_save yX1_save ∈ gT := List.mem_filter.mpr ⟨List.mem_append_right _ (List.mem_append_right _ (List.mem_append_right _ (List.mem_append_left _ (List.mem_of_getElem? (i := 0) rfl)))), rfl⟩
theorem tw_174 : Cond.code yX4_slide cX4_slide 6 (some .int) ∈ gT := List.mem_filter.mpr ⟨List.mem_append_right _ (List.mem_append_right _ (List.mem_append_right _ (List.mem_append_left _ (List.mem_of_getElem? (i := 15) rfl)))), rfl⟩
theorem tw_175 : Cond.methodLink RX4 68 Lib.Math.min.name ∈ gT := List.mem_filter.mpr ⟨List.mem_append_right _ (List.mem_append_right _ (List.mem_append_right _ (List.mem_append_left _ (List.mem_of_getElem? (i := 16) rfl)))), rfl⟩
theorem tw_176 : Cond.static Lib.Math.min.name ∈ gT := List.mem_filter.mpr ⟨List.mem_append_right _ (List.mem_append_right _ (List.mem_append_right _ (List.mem_append_left _ (List.mem_of_getElem? (i := 17) rfl)))), rfl⟩
theorem tw_177 : Cond.code Lib.Math.min.name Lib.Math.min.code 2 (some .int) ∈ gT := List.mem_filter.mpr ⟨List.mem_append_right _ (List.mem_append_right _ (List.mem_append_right _ (List.mem_append_left _ (List.mem_of_getElem? (i := 18) rfl)))), rfl⟩
theorem tw_178 : Cond.methodLink RX4 74 Lib.Math.max.name ∈ gT := List.mem_filter.mpr ⟨List.mem_append_right _ (List.mem_append_right _ (List.mem_append_right _ (List.mem_append_left _ (List.mem_of_getElem? (i := 19) rfl)))), rfl⟩
theorem tw_179 : Cond.static Lib.Math.max.name ∈ gT := List.mem_filter.mpr ⟨List.mem_append_right _ (List.mem_append_right _ (List.mem_append_right _ (List.mem_append_left _ (List.mem_of_getElem? (i := 20) rfl)))), rfl⟩
theorem tw_180 : Cond.code Lib.Math.max.name Lib.Math.max.code 2 (some .int) ∈ gT := List.mem_filter.mpr ⟨List.mem_append_right _ (List.mem_append_right _ (List.mem_append_right _ (List.mem_append_left _ (List.mem_of_getElem? (i := 21) rfl)))), rfl⟩
theorem tw_181 : Cond.code yX4_turn cX4_turn 4 (some .int) ∈ gT := List.mem_filter.mpr ⟨List.mem_append_right _ (List.mem_append_right _ (List.mem_append_right _ (List.mem_append_left _ (List.mem_of_getElem? (i := 28) rfl)))), rfl⟩
theorem tw_182 : Cond.fieldLink RX4 77 "SlotProbe$State" "turns" "[I" ∈ gT := List.mem_filter.mpr ⟨List.mem_append_right _ (List.mem_append_left _ (List.mem_of_getElem? (i := 32) rfl)), rfl⟩
theorem tw_183 : Cond.code yX4_bias cX4_bias 4 (some .int) ∈ gT := List.mem_filter.mpr ⟨List.mem_append_right _ (List.mem_append_right _ (List.mem_append_right _ (List.mem_append_left _ (List.mem_of_getElem? (i := 35) rfl)))), rfl⟩
theorem tw_184 : Cond.fieldLink RX4 80 "SlotProbe$State" "biases" "[I" ∈ gT := List.mem_filter.mpr ⟨List.mem_append_right _ (List.mem_append_left _ (List.mem_of_getElem? (i := 35) rfl)), rfl⟩
theorem tw_185 : Cond.code yX4_set cX4_set 4 (some .int) ∈ gT := List.mem_filter.mpr ⟨List.mem_append_right _ (List.mem_append_right _ (List.mem_append_right _ (List.mem_append_left _ (List.mem_of_getElem? (i := 42) rfl)))), rfl⟩
theorem tw_186 : Cond.fieldLink RX4 83 "SlotProbe$State" "settings" "[I" ∈ gT := List.mem_filter.mpr ⟨List.mem_append_right _ (List.mem_append_left _ (List.mem_of_getElem? (i := 38) rfl)), rfl⟩
theorem tw_187 : Cond.code yX4_pass cX4_pass 2 (some .int) ∈ gT := List.mem_filter.mpr ⟨List.mem_append_right _ (List.mem_append_right _ (List.mem_append_right _ (List.mem_append_left _ (List.mem_of_getElem? (i := 50) rfl)))), rfl⟩
theorem tw_188 : Cond.fieldLink RX4 86 "SlotProbe$State" "day" "I" ∈ gT := List.mem_filter.mpr ⟨List.mem_append_right _ (List.mem_append_left _ (List.mem_of_getElem? (i := 45) rfl)), rfl⟩
theorem tw_189 : Cond.methodLink RX4 89 yX4_needState ∈ gT := List.mem_filter.mpr ⟨List.mem_append_right _ (List.mem_append_right _ (List.mem_append_right _ (List.mem_append_left _ (List.mem_of_getElem? (i := 51) rfl)))), rfl⟩
theorem tw_190 : Cond.static yX4_needState ∈ gT := List.mem_filter.mpr ⟨List.mem_append_right _ (List.mem_append_right _ (List.mem_append_right _ (List.mem_append_left _ (List.mem_of_getElem? (i := 52) rfl)))), rfl⟩
theorem tw_191 : Cond.code yX4_needState cX4_needState 1 none ∈ gT := List.mem_filter.mpr ⟨List.mem_append_right _ (List.mem_append_right _ (List.mem_append_right _ (List.mem_append_left _ (List.mem_of_getElem? (i := 53) rfl)))), rfl⟩
theorem tw_192 : Cond.classLink RX4 247 "java/lang/IllegalStateException" ∈ gT := List.mem_filter.mpr ⟨List.mem_append_right _ (List.mem_append_right _ (List.mem_append_right _ (List.mem_append_left _ (List.mem_of_getElem? (i := 54) rfl)))), rfl⟩
theorem tw_193 : Cond.initialized "java/lang/IllegalStateException" ∈ gT := List.mem_filter.mpr ⟨List.mem_append_right _ (List.mem_append_left _ (List.mem_of_getElem? (i := 14) rfl)), rfl⟩
theorem tw_194 : Cond.code yX4_survey cX4_survey 5 (some .int) ∈ gT := List.mem_filter.mpr ⟨List.mem_append_right _ (List.mem_append_right _ (List.mem_append_right _ (List.mem_append_left _ (List.mem_of_getElem? (i := 76) rfl)))), rfl⟩
theorem tw_195 : Cond.fieldLink RX4 93 "SlotProbe$State" "surveys" "I" ∈ gT := List.mem_filter.mpr ⟨List.mem_append_right _ (List.mem_append_left _ (List.mem_of_getElem? (i := 48) rfl)), rfl⟩
theorem tw_196 : Cond.fieldLink RX4 107 "SlotProbe$State" "days" "[I" ∈ gT := List.mem_filter.mpr ⟨List.mem_append_right _ (List.mem_append_left _ (List.mem_of_getElem? (i := 43) rfl)), rfl⟩
theorem tw_197 : Cond.fieldLink RX4 110 "SlotProbe$State" "surveysTaken" "I" ∈ gT := List.mem_filter.mpr ⟨List.mem_append_right _ (List.mem_append_left _ (List.mem_of_getElem? (i := 50) rfl)), rfl⟩
theorem tw_198 : Cond.methodLink RX4 103 yX4_probeReads ∈ gT := List.mem_filter.mpr ⟨List.mem_append_right _ (List.mem_append_right _ (List.mem_append_left _ (List.mem_of_getElem? (i := 105) rfl))), rfl⟩
theorem tw_199 : Cond.instanceMethod yX4_probeReads ∈ gT := List.mem_filter.mpr ⟨List.mem_append_right _ (List.mem_append_right _ (List.mem_append_left _ (List.mem_of_getElem? (i := 107) rfl))), rfl⟩
theorem tw_200 : Cond.selects RX4 yX4_probeReads yX4_probeReads ∈ gT := List.mem_filter.mpr ⟨List.mem_append_left _ (List.mem_of_getElem? (i := 3) rfl), rfl⟩
theorem tw_201 : Cond.code yX4_probeReads cX4_probeReads 6 (some .int) ∈ gT := List.mem_filter.mpr ⟨List.mem_append_right _ (List.mem_append_right _ (List.mem_append_left _ (List.mem_of_getElem? (i := 108) rfl))), rfl⟩
theorem tw_202 : Cond.methodLink RX4 255 yX4_turnedTilt ∈ gT := List.mem_filter.mpr ⟨List.mem_append_right _ (List.mem_append_right _ (List.mem_append_left _ (List.mem_of_getElem? (i := 109) rfl))), rfl⟩
theorem tw_203 : Cond.code yX4_drop cX4_drop 1 (some .int) ∈ gT := List.mem_filter.mpr ⟨List.mem_append_right _ (List.mem_append_right _ (List.mem_append_right _ (List.mem_append_left _ (List.mem_of_getElem? (i := 83) rfl)))), rfl⟩
theorem tw_204 : Cond.code yX4_spoil cX4_spoil 7 (some .int) ∈ gT := List.mem_filter.mpr ⟨List.mem_append_right _ (List.mem_append_right _ (List.mem_append_right _ (List.mem_append_left _ (List.mem_of_getElem? (i := 90) rfl)))), rfl⟩
theorem tw_205 : Cond.fieldLink RX4 117 "SlotProbe$State" "readingsSpoiled" "I" ∈ gT := List.mem_filter.mpr ⟨List.mem_append_right _ (List.mem_append_left _ (List.mem_of_getElem? (i := 52) rfl)), rfl⟩
theorem tw_206 : Cond.code yX4_append cX4_append 2 (some .int) ∈ gT := List.mem_filter.mpr ⟨List.mem_append_right _ (List.mem_append_right _ (List.mem_append_right _ (List.mem_append_left _ (List.mem_of_getElem? (i := 97) rfl)))), rfl⟩
theorem tw_207 : Cond.code yX4_clearBuffer cX4_clearBuffer 2 (some .int) ∈ gT := List.mem_filter.mpr ⟨List.mem_append_right _ (List.mem_append_left _ (List.mem_of_getElem? (i := 183) rfl)), rfl⟩
theorem tw_208 : Cond.code yX4_firstError cX4_firstError 2 (some .int) ∈ gT := List.mem_filter.mpr ⟨List.mem_append_right _ (List.mem_append_left _ (List.mem_of_getElem? (i := 187) rfl)), rfl⟩
theorem tw_209 : Cond.methodLink RX4 120 yX3_begin ∈ gT := List.mem_filter.mpr ⟨List.mem_append_right _ (List.mem_append_left _ (List.mem_of_getElem? (i := 188) rfl)), rfl⟩
theorem tw_210 : Cond.instanceMethod yX3_begin ∈ gT := List.mem_filter.mpr ⟨List.mem_append_right _ (List.mem_append_left _ (List.mem_of_getElem? (i := 189) rfl)), rfl⟩
theorem tw_211 : Cond.selects RX3 yX3_begin yX3_begin ∈ gT := List.mem_filter.mpr ⟨List.mem_append_right _ (List.mem_append_left _ (List.mem_of_getElem? (i := 190) rfl)), rfl⟩
theorem tw_212 : Cond.methodLink RX4 123 yX3_takes ∈ gT := List.mem_filter.mpr ⟨List.mem_append_right _ (List.mem_append_left _ (List.mem_of_getElem? (i := 192) rfl)), rfl⟩
theorem tw_213 : Cond.instanceMethod yX3_takes ∈ gT := List.mem_filter.mpr ⟨List.mem_append_right _ (List.mem_append_left _ (List.mem_of_getElem? (i := 193) rfl)), rfl⟩
theorem tw_214 : Cond.selects RX3 yX3_takes yX3_takes ∈ gT := List.mem_filter.mpr ⟨List.mem_append_right _ (List.mem_append_left _ (List.mem_of_getElem? (i := 194) rfl)), rfl⟩
theorem tw_215 : Cond.code yX4_load cX4_load 2 (some .int) ∈ gT := List.mem_filter.mpr ⟨List.mem_append_right _ (List.mem_append_right _ (List.mem_append_right _ (List.mem_append_left _ (List.mem_of_getElem? (i := 104) rfl)))), rfl⟩
theorem tw_216 : Cond.methodLink RX4 127 yX4_bufferTellsReadings ∈ gT := List.mem_filter.mpr ⟨List.mem_append_right _ (List.mem_append_right _ (List.mem_append_right _ (List.mem_append_left _ (List.mem_of_getElem? (i := 105) rfl)))), rfl⟩
theorem tw_217 : Cond.instanceMethod yX4_bufferTellsReadings ∈ gT := List.mem_filter.mpr ⟨List.mem_append_right _ (List.mem_append_right _ (List.mem_append_right _ (List.mem_append_left _ (List.mem_of_getElem? (i := 107) rfl)))), rfl⟩
theorem tw_218 : Cond.selects RX4 yX4_bufferTellsReadings yX4_bufferTellsReadings ∈ gT := List.mem_filter.mpr ⟨List.mem_append_left _ (List.mem_of_getElem? (i := 12) rfl), rfl⟩
theorem tw_219 : Cond.code yX4_bufferTellsReadings cX4_bufferTellsReadings 1 (some .boolean) ∈ gT := List.mem_filter.mpr ⟨List.mem_append_right _ (List.mem_append_right _ (List.mem_append_right _ (List.mem_append_left _ (List.mem_of_getElem? (i := 108) rfl)))), rfl⟩
theorem tw_220 : Cond.methodLink RX4 261 yX4_firstError ∈ gT := List.mem_filter.mpr ⟨List.mem_append_right _ (List.mem_append_right _ (List.mem_append_right _ (List.mem_append_left _ (List.mem_of_getElem? (i := 109) rfl)))), rfl⟩
theorem tw_221 : Cond.instanceMethod yX4_firstError ∈ gT := List.mem_filter.mpr ⟨List.mem_append_right _ (List.mem_append_left _ (List.mem_of_getElem? (i := 185) rfl)), rfl⟩
theorem tw_222 : Cond.selects RX4 yX4_firstError yX4_firstError ∈ gT := List.mem_filter.mpr ⟨List.mem_append_right _ (List.mem_append_left _ (List.mem_of_getElem? (i := 186) rfl)), rfl⟩
theorem tw_223 : Cond.methodLink RX4 264 yX3_mayEnd ∈ gT := List.mem_filter.mpr ⟨List.mem_append_right _ (List.mem_append_right _ (List.mem_append_right _ (List.mem_append_left _ (List.mem_of_getElem? (i := 110) rfl)))), rfl⟩
theorem tw_224 : Cond.instanceMethod yX3_mayEnd ∈ gT := List.mem_filter.mpr ⟨List.mem_append_right _ (List.mem_append_right _ (List.mem_append_right _ (List.mem_append_left _ (List.mem_of_getElem? (i := 111) rfl)))), rfl⟩
theorem tw_225 : Cond.selects RX3 yX3_mayEnd yX3_mayEnd ∈ gT := List.mem_filter.mpr ⟨List.mem_append_right _ (List.mem_append_right _ (List.mem_append_right _ (List.mem_append_left _ (List.mem_of_getElem? (i := 112) rfl)))), rfl⟩
theorem tw_226 : Cond.methodLink RX4 131 yX4_needText ∈ gT := List.mem_filter.mpr ⟨List.mem_append_right _ (List.mem_append_right _ (List.mem_append_right _ (List.mem_append_left _ (List.mem_of_getElem? (i := 114) rfl)))), rfl⟩
theorem tw_227 : Cond.static yX4_needText ∈ gT := List.mem_filter.mpr ⟨List.mem_append_right _ (List.mem_append_right _ (List.mem_append_right _ (List.mem_append_left _ (List.mem_of_getElem? (i := 115) rfl)))), rfl⟩
theorem tw_228 : Cond.code yX4_needText cX4_needText 1 none ∈ gT := List.mem_filter.mpr ⟨List.mem_append_right _ (List.mem_append_right _ (List.mem_append_right _ (List.mem_append_left _ (List.mem_of_getElem? (i := 116) rfl)))), rfl⟩
theorem tw_229 : Cond.methodLink RX4 134 yX4_putReadings ∈ gT := List.mem_filter.mpr ⟨List.mem_append_right _ (List.mem_append_right _ (List.mem_append_right _ (List.mem_append_left _ (List.mem_of_getElem? (i := 118) rfl)))), rfl⟩
theorem tw_230 : Cond.instanceMethod yX4_putReadings ∈ gT := List.mem_filter.mpr ⟨List.mem_append_right _ (List.mem_append_right _ (List.mem_append_right _ (List.mem_append_left _ (List.mem_of_getElem? (i := 120) rfl)))), rfl⟩
theorem tw_231 : Cond.selects RX4 yX4_putReadings yX4_putReadings ∈ gT := List.mem_filter.mpr ⟨List.mem_append_left _ (List.mem_of_getElem? (i := 13) rfl), rfl⟩
theorem tw_232 : Cond.code yX4_putReadings cX4_putReadings 4 (some .int) ∈ gT := List.mem_filter.mpr ⟨List.mem_append_right _ (List.mem_append_right _ (List.mem_append_right _ (List.mem_append_left _ (List.mem_of_getElem? (i := 121) rfl)))), rfl⟩
theorem tw_233 : Cond.fieldLink RX4 267 "SlotProbe$TextReader" "level" "I" ∈ gT := List.mem_filter.mpr ⟨List.mem_append_right _ (List.mem_append_left _ (List.mem_of_getElem? (i := 134) rfl)), rfl⟩
theorem tw_234 : Cond.fieldLink RX4 270 "SlotProbe$TextReader" "own" "I" ∈ gT := List.mem_filter.mpr ⟨List.mem_append_right _ (List.mem_append_left _ (List.mem_of_getElem? (i := 136) rfl)), rfl⟩
theorem tw_235 : Cond.fieldLink RX4 273 "SlotProbe$TextReader" "face" "I" ∈ gT := List.mem_filter.mpr ⟨List.mem_append_right _ (List.mem_append_left _ (List.mem_of_getElem? (i := 138) rfl)), rfl⟩
theorem tw_236 : Cond.methodLink RX4 276 yX3_readingTold ∈ gT := List.mem_filter.mpr ⟨List.mem_append_right _ (List.mem_append_right _ (List.mem_append_right _ (List.mem_append_left _ (List.mem_of_getElem? (i := 122) rfl)))), rfl⟩
theorem tw_237 : Cond.instanceMethod yX3_readingTold ∈ gT := List.mem_filter.mpr ⟨List.mem_append_right _ (List.mem_append_right _ (List.mem_append_right _ (List.mem_append_left _ (List.mem_of_getElem? (i := 123) rfl)))), rfl⟩
theorem tw_238 : Cond.selects RX3 yX3_readingTold yX3_readingTold ∈ gT := List.mem_filter.mpr ⟨List.mem_append_right _ (List.mem_append_right _ (List.mem_append_right _ (List.mem_append_left _ (List.mem_of_getElem? (i := 124) rfl)))), rfl⟩
theorem tw_239 : Cond.code yX4_keep cX4_keep 2 (some .int) ∈ gT := List.mem_filter.mpr ⟨List.mem_append_right _ (List.mem_append_right _ (List.mem_append_right _ (List.mem_append_left _ (List.mem_of_getElem? (i := 132) rfl)))), rfl⟩
theorem tw_240 : Cond.methodLink RX4 138 yX2_become ∈ gT := List.mem_filter.mpr ⟨List.mem_append_right _ (List.mem_append_right _ (List.mem_append_right _ (List.mem_append_left _ (List.mem_of_getElem? (i := 133) rfl)))), rfl⟩
theorem tw_241 : Cond.code yX4_goBack cX4_goBack 2 (some .int) ∈ gT := List.mem_filter.mpr ⟨List.mem_append_right _ (List.mem_append_right _ (List.mem_append_right _ (List.mem_append_left _ (List.mem_of_getElem? (i := 140) rfl)))), rfl⟩
theorem tw_242 : Cond.code yX4_undo cX4_undo 1 (some .int) ∈ gT := List.mem_filter.mpr ⟨List.mem_append_right _ (List.mem_append_right _ (List.mem_append_right _ (List.mem_append_left _ (List.mem_of_getElem? (i := 147) rfl)))), rfl⟩
theorem tw_243 : Cond.fieldLink RX4 142 "SlotProbe$History" "saved" "I" ∈ gT := List.mem_filter.mpr ⟨List.mem_append_right _ (List.mem_append_left _ (List.mem_of_getElem? (i := 87) rfl)), rfl⟩
theorem tw_244 : Cond.methodLink RX4 145 yX1_bringBack ∈ gT := List.mem_filter.mpr ⟨List.mem_append_right _ (List.mem_append_right _ (List.mem_append_right _ (List.mem_append_left _ (List.mem_of_getElem? (i := 148) rfl)))), rfl⟩
theorem tw_245 : Cond.instanceMethod yX1_bringBack ∈ gT := List.mem_filter.mpr ⟨List.mem_append_right _ (List.mem_append_right _ (List.mem_append_right _ (List.mem_append_left _ (List.mem_of_getElem? (i := 149) rfl)))), rfl⟩
theorem tw_246 : Cond.selects RX1 yX1_bringBack yX1_bringBack ∈ gT := List.mem_filter.mpr ⟨List.mem_append_right _ (List.mem_append_right _ (List.mem_append_right _ (List.mem_append_left _ (List.mem_of_getElem? (i := 150) rfl)))), rfl⟩
theorem tw_247 : Cond.code yX4_levelOf cX4_levelOf 3 (some .int) ∈ gT := List.mem_filter.mpr ⟨List.mem_append_right _ (List.mem_append_right _ (List.mem_append_left _ (List.mem_of_getElem? (i := 85) rfl))), rfl⟩
theorem tw_248 : Cond.code yX4_reading cX4_reading 5 (some .int) ∈ gT := List.mem_filter.mpr ⟨List.mem_append_right _ (List.mem_append_right _ (List.mem_append_left _ (List.mem_of_getElem? (i := 167) rfl))), rfl⟩
theorem tw_249 : Cond.fieldLink RX4 163 "SlotProbe$Findings" "read" "[I" ∈ gT := List.mem_filter.mpr ⟨List.mem_append_right _ (List.mem_append_left _ (List.mem_of_getElem? (i := 107) rfl)), rfl⟩
theorem tw_250 : Cond.fieldLink RX4 169 "SlotProbe$Findings" "told" "[I" ∈ gT := List.mem_filter.mpr ⟨List.mem_append_right _ (List.mem_append_left _ (List.mem_of_getElem? (i := 109) rfl)), rfl⟩
theorem tw_251 : Cond.methodLink RX4 152 yX0_workOut ∈ gT := List.mem_filter.mpr ⟨List.mem_append_right _ (List.mem_append_right _ (List.mem_append_left _ (List.mem_of_getElem? (i := 120) rfl))), rfl⟩
theorem tw_252 : Cond.instanceMethod yX0_workOut ∈ gT := List.mem_filter.mpr ⟨List.mem_append_right _ (List.mem_append_right _ (List.mem_append_left _ (List.mem_of_getElem? (i := 121) rfl))), rfl⟩
theorem tw_253 : Cond.selects RX0 yX0_workOut yX0_workOut ∈ gT := List.mem_filter.mpr ⟨List.mem_append_right _ (List.mem_append_right _ (List.mem_append_left _ (List.mem_of_getElem? (i := 122) rfl))), rfl⟩
theorem tw_254 : Cond.methodLink RX4 155 yX4_checkOf ∈ gT := List.mem_filter.mpr ⟨List.mem_append_right _ (List.mem_append_right _ (List.mem_append_left _ (List.mem_of_getElem? (i := 168) rfl))), rfl⟩
theorem tw_255 : Cond.methodLink RX4 159 yX0_isSuspicious ∈ gT := List.mem_filter.mpr ⟨List.mem_append_right _ (List.mem_append_right _ (List.mem_append_left _ (List.mem_of_getElem? (i := 158) rfl))), rfl⟩
theorem tw_256 : Cond.methodLink RX4 166 yX4_tiltAt ∈ gT := List.mem_filter.mpr ⟨List.mem_append_right _ (List.mem_append_right _ (List.mem_append_left _ (List.mem_of_getElem? (i := 163) rfl))), rfl⟩
theorem tw_257 : Cond.code yX4_surveyOf cX4_surveyOf 3 (some .int) ∈ gT := List.mem_filter.mpr ⟨List.mem_append_right _ (List.mem_append_right _ (List.mem_append_left _ (List.mem_of_getElem? (i := 119) rfl))), rfl⟩
theorem tw_258 : Cond.fieldLink RX4 172 "SlotProbe$Findings" "commons" "[I" ∈ gT := List.mem_filter.mpr ⟨List.mem_append_right _ (List.mem_append_left _ (List.mem_of_getElem? (i := 103) rfl)), rfl⟩
theorem tw_259 : Cond.methodLink RX4 175 yX4_suspiciousTilts ∈ gT := List.mem_filter.mpr ⟨List.mem_append_right _ (List.mem_append_right _ (List.mem_append_left _ (List.mem_of_getElem? (i := 154) rfl))), rfl⟩
theorem tw_260 : Cond.instanceMethod yX4_suspiciousTilts ∈ gT := List.mem_filter.mpr ⟨List.mem_append_right _ (List.mem_append_right _ (List.mem_append_left _ (List.mem_of_getElem? (i := 156) rfl))), rfl⟩
theorem tw_261 : Cond.selects RX4 yX4_suspiciousTilts yX4_suspiciousTilts ∈ gT := List.mem_filter.mpr ⟨List.mem_append_left _ (List.mem_of_getElem? (i := 5) rfl), rfl⟩
theorem tw_262 : Cond.code yX4_suspiciousTilts cX4_suspiciousTilts 5 (some .int) ∈ gT := List.mem_filter.mpr ⟨List.mem_append_right _ (List.mem_append_right _ (List.mem_append_left _ (List.mem_of_getElem? (i := 157) rfl))), rfl⟩
theorem tw_263 : Cond.methodLink RX4 178 yX4_levelFarthestOff ∈ gT := List.mem_filter.mpr ⟨List.mem_append_right _ (List.mem_append_right _ (List.mem_append_left _ (List.mem_of_getElem? (i := 159) rfl))), rfl⟩
theorem tw_264 : Cond.instanceMethod yX4_levelFarthestOff ∈ gT := List.mem_filter.mpr ⟨List.mem_append_right _ (List.mem_append_right _ (List.mem_append_left _ (List.mem_of_getElem? (i := 161) rfl))), rfl⟩
theorem tw_265 : Cond.selects RX4 yX4_levelFarthestOff yX4_levelFarthestOff ∈ gT := List.mem_filter.mpr ⟨List.mem_append_left _ (List.mem_of_getElem? (i := 6) rfl), rfl⟩
theorem tw_266 : Cond.code yX4_levelFarthestOff cX4_levelFarthestOff 7 (some .int) ∈ gT := List.mem_filter.mpr ⟨List.mem_append_right _ (List.mem_append_right _ (List.mem_append_left _ (List.mem_of_getElem? (i := 162) rfl))), rfl⟩
theorem tw_267 : Cond.fieldLink RX4 258 "SlotProbe$Findings" "off" "[I" ∈ gT := List.mem_filter.mpr ⟨List.mem_append_right _ (List.mem_append_left _ (List.mem_of_getElem? (i := 105) rfl)), rfl⟩
theorem tw_268 : Cond.code yX4_place cX4_place 5 (some .int) ∈ gT := List.mem_filter.mpr ⟨List.mem_append_right _ (List.mem_append_right _ (List.mem_append_left _ (List.mem_of_getElem? (i := 172) rfl))), rfl⟩
theorem tw_269 : Cond.methodLink RX4 181 yX4_toldTogether ∈ gT := List.mem_filter.mpr ⟨List.mem_append_right _ (List.mem_append_right _ (List.mem_append_left _ (List.mem_of_getElem? (i := 173) rfl))), rfl⟩
theorem tw_270 : Cond.instanceMethod yX4_toldTogether ∈ gT := List.mem_filter.mpr ⟨List.mem_append_right _ (List.mem_append_right _ (List.mem_append_left _ (List.mem_of_getElem? (i := 175) rfl))), rfl⟩
theorem tw_271 : Cond.selects RX4 yX4_toldTogether yX4_toldTogether ∈ gT := List.mem_filter.mpr ⟨List.mem_append_left _ (List.mem_of_getElem? (i := 7) rfl), rfl⟩
theorem tw_272 : Cond.code yX4_toldTogether cX4_toldTogether 7 (some .int) ∈ gT := List.mem_filter.mpr ⟨List.mem_append_right _ (List.mem_append_right _ (List.mem_append_left _ (List.mem_of_getElem? (i := 176) rfl))), rfl⟩
theorem tw_273 : Cond.code yX4_count cX4_count 2 (some .int) ∈ gT := List.mem_filter.mpr ⟨List.mem_append_right _ (List.mem_append_left _ (List.mem_of_getElem? (i := 239) rfl)), rfl⟩
theorem tw_274 : Cond.methodLink RX4 184 yX4_turnedLevels ∈ gT := List.mem_filter.mpr ⟨List.mem_append_right _ (List.mem_append_right _ (List.mem_append_left _ (List.mem_of_getElem? (i := 74) rfl))), rfl⟩
theorem tw_275 : Cond.instanceMethod yX4_turnedLevels ∈ gT := List.mem_filter.mpr ⟨List.mem_append_right _ (List.mem_append_right _ (List.mem_append_left _ (List.mem_of_getElem? (i := 76) rfl))), rfl⟩
theorem tw_276 : Cond.selects RX4 yX4_turnedLevels yX4_turnedLevels ∈ gT := List.mem_filter.mpr ⟨List.mem_append_left _ (List.mem_of_getElem? (i := 2) rfl), rfl⟩
theorem tw_277 : Cond.code yX4_turnedLevels cX4_turnedLevels 3 (some .int) ∈ gT := List.mem_filter.mpr ⟨List.mem_append_right _ (List.mem_append_right _ (List.mem_append_left _ (List.mem_of_getElem? (i := 77) rfl))), rfl⟩
theorem tw_278 : Cond.code yX4_setting cX4_setting 2 (some .int) ∈ gT := List.mem_filter.mpr ⟨List.mem_append_right _ (List.mem_append_right _ (List.mem_append_right _ (List.mem_append_left _ (List.mem_of_getElem? (i := 178) rfl)))), rfl⟩
theorem tw_279 : Cond.code yX4_moved cX4_moved 5 (some .int) ∈ gT := List.mem_filter.mpr ⟨List.mem_append_right _ (List.mem_append_right _ (List.mem_append_right _ (List.mem_append_left _ (List.mem_of_getElem? (i := 185) rfl)))), rfl⟩
theorem tw_280 : Cond.methodLink RX4 188 yX4_movedUpTo ∈ gT := List.mem_filter.mpr ⟨List.mem_append_right _ (List.mem_append_right _ (List.mem_append_left _ (List.mem_of_getElem? (i := 217) rfl))), rfl⟩
theorem tw_281 : Cond.instanceMethod yX4_movedUpTo ∈ gT := List.mem_filter.mpr ⟨List.mem_append_right _ (List.mem_append_right _ (List.mem_append_left _ (List.mem_of_getElem? (i := 219) rfl))), rfl⟩
theorem tw_282 : Cond.selects RX4 yX4_movedUpTo yX4_movedUpTo ∈ gT := List.mem_filter.mpr ⟨List.mem_append_left _ (List.mem_of_getElem? (i := 9) rfl), rfl⟩
theorem tw_283 : Cond.code yX4_movedUpTo cX4_movedUpTo 5 (some .int) ∈ gT := List.mem_filter.mpr ⟨List.mem_append_right _ (List.mem_append_right _ (List.mem_append_left _ (List.mem_of_getElem? (i := 220) rfl))), rfl⟩
theorem tw_284 : Cond.code yX4_slidesAt cX4_slidesAt 8 (some .int) ∈ gT := List.mem_filter.mpr ⟨List.mem_append_right _ (List.mem_append_right _ (List.mem_append_left _ (List.mem_of_getElem? (i := 203) rfl))), rfl⟩
theorem tw_285 : Cond.methodLink RX4 194 Lib.Math.abs.name ∈ gT := List.mem_filter.mpr ⟨List.mem_append_right _ (List.mem_append_right _ (List.mem_append_left _ (List.mem_of_getElem? (i := 208) rfl))), rfl⟩
theorem tw_286 : Cond.methodLink RX4 191 yX4_slidBetween ∈ gT := List.mem_filter.mpr ⟨List.mem_append_right _ (List.mem_append_right _ (List.mem_append_left _ (List.mem_of_getElem? (i := 204) rfl))), rfl⟩
theorem tw_287 : Cond.instanceMethod yX4_slidBetween ∈ gT := List.mem_filter.mpr ⟨List.mem_append_right _ (List.mem_append_right _ (List.mem_append_left _ (List.mem_of_getElem? (i := 206) rfl))), rfl⟩
theorem tw_288 : Cond.selects RX4 yX4_slidBetween yX4_slidBetween ∈ gT := List.mem_filter.mpr ⟨List.mem_append_left _ (List.mem_of_getElem? (i := 8) rfl), rfl⟩
theorem tw_289 : Cond.code yX4_slidBetween cX4_slidBetween 5 (some .int) ∈ gT := List.mem_filter.mpr ⟨List.mem_append_right _ (List.mem_append_right _ (List.mem_append_left _ (List.mem_of_getElem? (i := 207) rfl))), rfl⟩
theorem tw_290 : Cond.code yX4_firstMoved cX4_firstMoved 7 (some .int) ∈ gT := List.mem_filter.mpr ⟨List.mem_append_right _ (List.mem_append_right _ (List.mem_append_left _ (List.mem_of_getElem? (i := 212) rfl))), rfl⟩
theorem tw_291 : Cond.code yX4_speed cX4_speed 5 (some .double) ∈ gT := List.mem_filter.mpr ⟨List.mem_append_right _ (List.mem_append_right _ (List.mem_append_left _ (List.mem_of_getElem? (i := 216) rfl))), rfl⟩
theorem tw_292 : Cond.code yX4_meanCheck cX4_meanCheck 5 (some .float) ∈ gT := List.mem_filter.mpr ⟨List.mem_append_right _ (List.mem_append_right _ (List.mem_append_left _ (List.mem_of_getElem? (i := 180) rfl))), rfl⟩
theorem tw_293 : Cond.constantFloat RX4 197 (1098907648) ∈ gT := List.mem_filter.mpr ⟨List.mem_append_right _ (List.mem_append_right _ (List.mem_append_left _ (List.mem_of_getElem? (i := 181) rfl))), rfl⟩
theorem tw_294 : Cond.code yX4_spread cX4_spread 10 (some .double) ∈ gT := List.mem_filter.mpr ⟨List.mem_append_right _ (List.mem_append_right _ (List.mem_append_left _ (List.mem_of_getElem? (i := 193) rfl))), rfl⟩
theorem tw_295 : Cond.constantLong RX4 198 (16) ∈ gT := List.mem_filter.mpr ⟨List.mem_append_right _ (List.mem_append_right _ (List.mem_append_left _ (List.mem_of_getElem? (i := 194) rfl))), rfl⟩
theorem tw_296 : Cond.constantDouble RX4 200 (4643211215818981376) ∈ gT := List.mem_filter.mpr ⟨List.mem_append_right _ (List.mem_append_right _ (List.mem_append_left _ (List.mem_of_getElem? (i := 195) rfl))), rfl⟩
theorem tw_297 : Cond.code yX4_digest cX4_digest 5 (some .long) ∈ gT := List.mem_filter.mpr ⟨List.mem_append_right _ (List.mem_append_left _ (List.mem_of_getElem? (i := 230) rfl)), rfl⟩
theorem tw_298 : Cond.constantLong RX4 202 (3533) ∈ gT := List.mem_filter.mpr ⟨List.mem_append_right _ (List.mem_append_left _ (List.mem_of_getElem? (i := 231) rfl)), rfl⟩
theorem tw_299 : Cond.methodLink RX4 204 yX4_digestOfCasing ∈ gT := List.mem_filter.mpr ⟨List.mem_append_right _ (List.mem_append_left _ (List.mem_of_getElem? (i := 232) rfl)), rfl⟩
theorem tw_300 : Cond.instanceMethod yX4_digestOfCasing ∈ gT := List.mem_filter.mpr ⟨List.mem_append_right _ (List.mem_append_left _ (List.mem_of_getElem? (i := 234) rfl)), rfl⟩
theorem tw_301 : Cond.selects RX4 yX4_digestOfCasing yX4_digestOfCasing ∈ gT := List.mem_filter.mpr ⟨List.mem_append_left _ (List.mem_of_getElem? (i := 0) rfl), rfl⟩
theorem tw_302 : Cond.code yX4_digestOfCasing cX4_digestOfCasing 7 (some .long) ∈ gT := List.mem_filter.mpr ⟨List.mem_append_right _ (List.mem_append_left _ (List.mem_of_getElem? (i := 235) rfl)), rfl⟩
theorem tw_303 : Cond.methodLink RX4 281 yX4_count ∈ gT := List.mem_filter.mpr ⟨List.mem_append_right _ (List.mem_append_left _ (List.mem_of_getElem? (i := 236) rfl)), rfl⟩
theorem tw_304 : Cond.instanceMethod yX4_count ∈ gT := List.mem_filter.mpr ⟨List.mem_append_right _ (List.mem_append_left _ (List.mem_of_getElem? (i := 237) rfl)), rfl⟩
theorem tw_305 : Cond.selects RX4 yX4_count yX4_count ∈ gT := List.mem_filter.mpr ⟨List.mem_append_right _ (List.mem_append_left _ (List.mem_of_getElem? (i := 238) rfl)), rfl⟩
theorem tw_306 : Cond.methodLink RX4 215 yX4_mixed ∈ gT := List.mem_filter.mpr ⟨List.mem_append_right _ (List.mem_append_right _ (List.mem_append_left _ (List.mem_of_getElem? (i := 78) rfl))), rfl⟩
theorem tw_307 : Cond.static yX4_mixed ∈ gT := List.mem_filter.mpr ⟨List.mem_append_right _ (List.mem_append_right _ (List.mem_append_left _ (List.mem_of_getElem? (i := 79) rfl))), rfl⟩
theorem tw_308 : Cond.code yX4_mixed cX4_mixed 4 (some .long) ∈ gT := List.mem_filter.mpr ⟨List.mem_append_right _ (List.mem_append_right _ (List.mem_append_left _ (List.mem_of_getElem? (i := 80) rfl))), rfl⟩
theorem tw_309 : Cond.constantLong RX4 279 (31) ∈ gT := List.mem_filter.mpr ⟨List.mem_append_right _ (List.mem_append_right _ (List.mem_append_left _ (List.mem_of_getElem? (i := 81) rfl))), rfl⟩
theorem tw_310 : Cond.methodLink RX4 284 yX4_levelOf ∈ gT := List.mem_filter.mpr ⟨List.mem_append_right _ (List.mem_append_right _ (List.mem_append_left _ (List.mem_of_getElem? (i := 82) rfl))), rfl⟩
theorem tw_311 : Cond.instanceMethod yX4_levelOf ∈ gT := List.mem_filter.mpr ⟨List.mem_append_right _ (List.mem_append_right _ (List.mem_append_left _ (List.mem_of_getElem? (i := 83) rfl))), rfl⟩
theorem tw_312 : Cond.selects RX4 yX4_levelOf yX4_levelOf ∈ gT := List.mem_filter.mpr ⟨List.mem_append_right _ (List.mem_append_right _ (List.mem_append_left _ (List.mem_of_getElem? (i := 84) rfl))), rfl⟩
theorem tw_313 : Cond.methodLink RX4 208 yX4_digestOfSurvey ∈ gT := List.mem_filter.mpr ⟨List.mem_append_right _ (List.mem_append_right _ (List.mem_append_left _ (List.mem_of_getElem? (i := 112) rfl))), rfl⟩
theorem tw_314 : Cond.instanceMethod yX4_digestOfSurvey ∈ gT := List.mem_filter.mpr ⟨List.mem_append_right _ (List.mem_append_right _ (List.mem_append_left _ (List.mem_of_getElem? (i := 114) rfl))), rfl⟩
theorem tw_315 : Cond.selects RX4 yX4_digestOfSurvey yX4_digestOfSurvey ∈ gT := List.mem_filter.mpr ⟨List.mem_append_left _ (List.mem_of_getElem? (i := 4) rfl), rfl⟩
theorem tw_316 : Cond.code yX4_digestOfSurvey cX4_digestOfSurvey 9 (some .long) ∈ gT := List.mem_filter.mpr ⟨List.mem_append_right _ (List.mem_append_right _ (List.mem_append_left _ (List.mem_of_getElem? (i := 115) rfl))), rfl⟩
theorem tw_317 : Cond.methodLink RX4 287 yX4_surveyOf ∈ gT := List.mem_filter.mpr ⟨List.mem_append_right _ (List.mem_append_right _ (List.mem_append_left _ (List.mem_of_getElem? (i := 116) rfl))), rfl⟩
theorem tw_318 : Cond.instanceMethod yX4_surveyOf ∈ gT := List.mem_filter.mpr ⟨List.mem_append_right _ (List.mem_append_right _ (List.mem_append_left _ (List.mem_of_getElem? (i := 117) rfl))), rfl⟩
theorem tw_319 : Cond.selects RX4 yX4_surveyOf yX4_surveyOf ∈ gT := List.mem_filter.mpr ⟨List.mem_append_right _ (List.mem_append_right _ (List.mem_append_left _ (List.mem_of_getElem? (i := 118) rfl))), rfl⟩
theorem tw_320 : Cond.methodLink RX4 290 yX4_reading ∈ gT := List.mem_filter.mpr ⟨List.mem_append_right _ (List.mem_append_right _ (List.mem_append_left _ (List.mem_of_getElem? (i := 164) rfl))), rfl⟩
theorem tw_321 : Cond.instanceMethod yX4_reading ∈ gT := List.mem_filter.mpr ⟨List.mem_append_right _ (List.mem_append_right _ (List.mem_append_left _ (List.mem_of_getElem? (i := 165) rfl))), rfl⟩
theorem tw_322 : Cond.selects RX4 yX4_reading yX4_reading ∈ gT := List.mem_filter.mpr ⟨List.mem_append_right _ (List.mem_append_right _ (List.mem_append_left _ (List.mem_of_getElem? (i := 166) rfl))), rfl⟩
theorem tw_323 : Cond.methodLink RX4 293 yX4_place ∈ gT := List.mem_filter.mpr ⟨List.mem_append_right _ (List.mem_append_right _ (List.mem_append_left _ (List.mem_of_getElem? (i := 169) rfl))), rfl⟩
theorem tw_324 : Cond.instanceMethod yX4_place ∈ gT := List.mem_filter.mpr ⟨List.mem_append_right _ (List.mem_append_right _ (List.mem_append_left _ (List.mem_of_getElem? (i := 170) rfl))), rfl⟩
theorem tw_325 : Cond.selects RX4 yX4_place yX4_place ∈ gT := List.mem_filter.mpr ⟨List.mem_append_right _ (List.mem_append_right _ (List.mem_append_left _ (List.mem_of_getElem? (i := 171) rfl))), rfl⟩
theorem tw_326 : Cond.methodLink RX4 296 yX4_meanCheck ∈ gT := List.mem_filter.mpr ⟨List.mem_append_right _ (List.mem_append_right _ (List.mem_append_left _ (List.mem_of_getElem? (i := 177) rfl))), rfl⟩
theorem tw_327 : Cond.instanceMethod yX4_meanCheck ∈ gT := List.mem_filter.mpr ⟨List.mem_append_right _ (List.mem_append_right _ (List.mem_append_left _ (List.mem_of_getElem? (i := 178) rfl))), rfl⟩
theorem tw_328 : Cond.selects RX4 yX4_meanCheck yX4_meanCheck ∈ gT := List.mem_filter.mpr ⟨List.mem_append_right _ (List.mem_append_right _ (List.mem_append_left _ (List.mem_of_getElem? (i := 179) rfl))), rfl⟩
theorem tw_329 : Cond.methodLink RX4 300 yX4_bitsOfFloat ∈ gT := List.mem_filter.mpr ⟨List.mem_append_right _ (List.mem_append_right _ (List.mem_append_left _ (List.mem_of_getElem? (i := 182) rfl))), rfl⟩
theorem tw_330 : Cond.static yX4_bitsOfFloat ∈ gT := List.mem_filter.mpr ⟨List.mem_append_right _ (List.mem_append_right _ (List.mem_append_left _ (List.mem_of_getElem? (i := 183) rfl))), rfl⟩
theorem tw_331 : Cond.code yX4_bitsOfFloat cX4_bitsOfFloat 1 (some .int) ∈ gT := List.mem_filter.mpr ⟨List.mem_append_right _ (List.mem_append_right _ (List.mem_append_left _ (List.mem_of_getElem? (i := 184) rfl))), rfl⟩
theorem tw_332 : Cond.constant RX4 318 (-2147483648) ∈ gT := List.mem_filter.mpr ⟨List.mem_append_right _ (List.mem_append_right _ (List.mem_append_left _ (List.mem_of_getElem? (i := 185) rfl))), rfl⟩
theorem tw_333 : Cond.methodLink RX4 312 yX4_bitsOfMagnitude ∈ gT := List.mem_filter.mpr ⟨List.mem_append_right _ (List.mem_append_right _ (List.mem_append_left _ (List.mem_of_getElem? (i := 186) rfl))), rfl⟩
theorem tw_334 : Cond.static yX4_bitsOfMagnitude ∈ gT := List.mem_filter.mpr ⟨List.mem_append_right _ (List.mem_append_right _ (List.mem_append_left _ (List.mem_of_getElem? (i := 187) rfl))), rfl⟩
theorem tw_335 : Cond.code yX4_bitsOfMagnitude cX4_bitsOfMagnitude 9 (some .long) ∈ gT := List.mem_filter.mpr ⟨List.mem_append_right _ (List.mem_append_right _ (List.mem_append_left _ (List.mem_of_getElem? (i := 188) rfl))), rfl⟩
theorem tw_336 : Cond.constantDouble RX4 319 (4611686018427387904) ∈ gT := List.mem_filter.mpr ⟨List.mem_append_right _ (List.mem_append_right _ (List.mem_append_left _ (List.mem_of_getElem? (i := 189) rfl))), rfl⟩
theorem tw_337 : Cond.methodLink RX4 304 yX4_spread ∈ gT := List.mem_filter.mpr ⟨List.mem_append_right _ (List.mem_append_right _ (List.mem_append_left _ (List.mem_of_getElem? (i := 190) rfl))), rfl⟩
theorem tw_338 : Cond.instanceMethod yX4_spread ∈ gT := List.mem_filter.mpr ⟨List.mem_append_right _ (List.mem_append_right _ (List.mem_append_left _ (List.mem_of_getElem? (i := 191) rfl))), rfl⟩
theorem tw_339 : Cond.selects RX4 yX4_spread yX4_spread ∈ gT := List.mem_filter.mpr ⟨List.mem_append_right _ (List.mem_append_right _ (List.mem_append_left _ (List.mem_of_getElem? (i := 192) rfl))), rfl⟩
theorem tw_340 : Cond.methodLink RX4 226 yX4_bitsOfDouble ∈ gT := List.mem_filter.mpr ⟨List.mem_append_right _ (List.mem_append_right _ (List.mem_append_left _ (List.mem_of_getElem? (i := 196) rfl))), rfl⟩
theorem tw_341 : Cond.static yX4_bitsOfDouble ∈ gT := List.mem_filter.mpr ⟨List.mem_append_right _ (List.mem_append_right _ (List.mem_append_left _ (List.mem_of_getElem? (i := 197) rfl))), rfl⟩
theorem tw_342 : Cond.code yX4_bitsOfDouble cX4_bitsOfDouble 2 (some .long) ∈ gT := List.mem_filter.mpr ⟨List.mem_append_right _ (List.mem_append_right _ (List.mem_append_left _ (List.mem_of_getElem? (i := 198) rfl))), rfl⟩
theorem tw_343 : Cond.constantLong RX4 310 (-9223372036854775808) ∈ gT := List.mem_filter.mpr ⟨List.mem_append_right _ (List.mem_append_right _ (List.mem_append_left _ (List.mem_of_getElem? (i := 199) rfl))), rfl⟩
theorem tw_344 : Cond.methodLink RX4 212 yX4_slidesAt ∈ gT := List.mem_filter.mpr ⟨List.mem_append_right _ (List.mem_append_right _ (List.mem_append_left _ (List.mem_of_getElem? (i := 200) rfl))), rfl⟩
theorem tw_345 : Cond.instanceMethod yX4_slidesAt ∈ gT := List.mem_filter.mpr ⟨List.mem_append_right _ (List.mem_append_right _ (List.mem_append_left _ (List.mem_of_getElem? (i := 201) rfl))), rfl⟩
theorem tw_346 : Cond.selects RX4 yX4_slidesAt yX4_slidesAt ∈ gT := List.mem_filter.mpr ⟨List.mem_append_right _ (List.mem_append_right _ (List.mem_append_left _ (List.mem_of_getElem? (i := 202) rfl))), rfl⟩
theorem tw_347 : Cond.methodLink RX4 219 yX4_firstMoved ∈ gT := List.mem_filter.mpr ⟨List.mem_append_right _ (List.mem_append_right _ (List.mem_append_left _ (List.mem_of_getElem? (i := 209) rfl))), rfl⟩
theorem tw_348 : Cond.instanceMethod yX4_firstMoved ∈ gT := List.mem_filter.mpr ⟨List.mem_append_right _ (List.mem_append_right _ (List.mem_append_left _ (List.mem_of_getElem? (i := 210) rfl))), rfl⟩
theorem tw_349 : Cond.selects RX4 yX4_firstMoved yX4_firstMoved ∈ gT := List.mem_filter.mpr ⟨List.mem_append_right _ (List.mem_append_right _ (List.mem_append_left _ (List.mem_of_getElem? (i := 211) rfl))), rfl⟩
theorem tw_350 : Cond.methodLink RX4 222 yX4_speed ∈ gT := List.mem_filter.mpr ⟨List.mem_append_right _ (List.mem_append_right _ (List.mem_append_left _ (List.mem_of_getElem? (i := 213) rfl))), rfl⟩
theorem tw_351 : Cond.instanceMethod yX4_speed ∈ gT := List.mem_filter.mpr ⟨List.mem_append_right _ (List.mem_append_right _ (List.mem_append_left _ (List.mem_of_getElem? (i := 214) rfl))), rfl⟩
theorem tw_352 : Cond.selects RX4 yX4_speed yX4_speed ∈ gT := List.mem_filter.mpr ⟨List.mem_append_right _ (List.mem_append_right _ (List.mem_append_left _ (List.mem_of_getElem? (i := 215) rfl))), rfl⟩
theorem tw_353 : Cond.methodLink RX4 230 yX4_digestOfTexts ∈ gT := List.mem_filter.mpr ⟨List.mem_append_right _ (List.mem_append_right _ (List.mem_append_left _ (List.mem_of_getElem? (i := 221) rfl))), rfl⟩
theorem tw_354 : Cond.instanceMethod yX4_digestOfTexts ∈ gT := List.mem_filter.mpr ⟨List.mem_append_right _ (List.mem_append_right _ (List.mem_append_left _ (List.mem_of_getElem? (i := 223) rfl))), rfl⟩
theorem tw_355 : Cond.selects RX4 yX4_digestOfTexts yX4_digestOfTexts ∈ gT := List.mem_filter.mpr ⟨List.mem_append_left _ (List.mem_of_getElem? (i := 10) rfl), rfl⟩
theorem tw_356 : Cond.code yX4_digestOfTexts cX4_digestOfTexts 6 (some .long) ∈ gT := List.mem_filter.mpr ⟨List.mem_append_right _ (List.mem_append_right _ (List.mem_append_left _ (List.mem_of_getElem? (i := 224) rfl))), rfl⟩
theorem tw_357 : Cond.code yX5_init cX5_init 1 none ∈ gT := List.mem_filter.mpr ⟨List.mem_append_right _ (List.mem_append_right _ (List.mem_append_right _ (List.mem_append_left _ (List.mem_of_getElem? (i := 210) rfl)))), rfl⟩
theorem tw_358 : Cond.methodLink RX5 1 objectInit ∈ gT := List.mem_filter.mpr ⟨List.mem_append_right _ (List.mem_append_right _ (List.mem_append_right _ (List.mem_append_left _ (List.mem_of_getElem? (i := 211) rfl)))), rfl⟩
theorem tw_359 : Cond.fieldLink RX5 7 "SlotProbeModel" "s" "[I" ∈ gT := List.mem_filter.mpr ⟨List.mem_append_right _ (List.mem_append_right _ (List.mem_append_right _ (List.mem_append_left _ (List.mem_of_getElem? (i := 213) rfl)))), rfl⟩
theorem tw_360 : Cond.fieldLink RX5 13 "SlotProbeModel" "isKept" "[Z" ∈ gT := List.mem_filter.mpr ⟨List.mem_append_right _ (List.mem_append_right _ (List.mem_append_right _ (List.mem_append_left _ (List.mem_of_getElem? (i := 215) rfl)))), rfl⟩
theorem tw_361 : Cond.fieldLink RX5 17 "SlotProbeModel" "text" "[I" ∈ gT := List.mem_filter.mpr ⟨List.mem_append_right _ (List.mem_append_right _ (List.mem_append_right _ (List.mem_append_left _ (List.mem_of_getElem? (i := 216) rfl)))), rfl⟩
theorem tw_362 : Cond.code yX5_thrown cX5_thrown 1 (some .int) ∈ gT := List.mem_filter.mpr ⟨List.mem_append_right _ (List.mem_append_right _ (List.mem_append_right _ (List.mem_append_right _ (List.mem_append_left _ (List.mem_of_getElem? (i := 6) rfl))))), rfl⟩
theorem tw_363 : Cond.fieldLink RX5 20 "SlotProbeModel" "thrown" "I" ∈ gT := List.mem_filter.mpr ⟨List.mem_append_right _ (List.mem_append_right _ (List.mem_append_right _ (List.mem_append_left _ (List.mem_of_getElem? (i := 212) rfl)))), rfl⟩
theorem tw_364 : Cond.code yX5_in cX5_in 3 (some .boolean) ∈ gT := List.mem_filter.mpr ⟨List.mem_append_right _ (List.mem_append_right _ (List.mem_append_right _ (List.mem_append_right _ (List.mem_append_left _ (List.mem_of_getElem? (i := 16) rfl))))), rfl⟩
theorem tw_365 : Cond.code yX5_holds cX5_holds 2 (some .boolean) ∈ gT := List.mem_filter.mpr ⟨List.mem_append_right _ (List.mem_append_right _ (List.mem_append_right _ (List.mem_append_right _ (List.mem_append_left _ (List.mem_of_getElem? (i := 23) rfl))))), rfl⟩
theorem tw_366 : Cond.code yX5_isLevel cX5_isLevel 1 (some .boolean) ∈ gT := List.mem_filter.mpr ⟨List.mem_append_right _ (List.mem_append_right _ (List.mem_append_right _ (List.mem_append_right _ (List.mem_append_left _ (List.mem_of_getElem? (i := 13) rfl))))), rfl⟩
theorem tw_367 : Cond.methodLink RX5 24 yX5_in ∈ gT := List.mem_filter.mpr ⟨List.mem_append_right _ (List.mem_append_right _ (List.mem_append_right _ (List.mem_append_right _ (List.mem_append_left _ (List.mem_of_getElem? (i := 14) rfl))))), rfl⟩
theorem tw_368 : Cond.static yX5_in ∈ gT := List.mem_filter.mpr ⟨List.mem_append_right _ (List.mem_append_right _ (List.mem_append_right _ (List.mem_append_right _ (List.mem_append_left _ (List.mem_of_getElem? (i := 15) rfl))))), rfl⟩
theorem tw_369 : Cond.initialized RX5 ∈ gT := List.mem_filter.mpr ⟨List.mem_append_right _ (List.mem_append_left _ (List.mem_of_getElem? (i := 6) rfl)), rfl⟩
theorem tw_370 : Cond.code yX5_isSide cX5_isSide 1 (some .boolean) ∈ gT := List.mem_filter.mpr ⟨List.mem_append_right _ (List.mem_append_right _ (List.mem_append_right _ (List.mem_append_right _ (List.mem_append_left _ (List.mem_of_getElem? (i := 19) rfl))))), rfl⟩
theorem tw_371 : Cond.code yX5_isSurvey cX5_isSurvey 2 (some .boolean) ∈ gT := List.mem_filter.mpr ⟨List.mem_append_right _ (List.mem_append_right _ (List.mem_append_right _ (List.mem_append_right _ (List.mem_append_left _ (List.mem_of_getElem? (i := 154) rfl))))), rfl⟩
theorem tw_372 : Cond.code yX5_size cX5_size 1 (some .int) ∈ gT := List.mem_filter.mpr ⟨List.mem_append_right _ (List.mem_append_right _ (List.mem_append_right _ (List.mem_append_right _ (List.mem_append_left _ (List.mem_of_getElem? (i := 173) rfl))))), rfl⟩
theorem tw_373 : Cond.code yX5_tilt cX5_tilt 3 (some .int) ∈ gT := List.mem_filter.mpr ⟨List.mem_append_right _ (List.mem_append_right _ (List.mem_append_right _ (List.mem_append_right _ (List.mem_append_left _ (List.mem_of_getElem? (i := 43) rfl))))), rfl⟩
theorem tw_374 : Cond.code yX5_turnOf cX5_turnOf 2 (some .int) ∈ gT := List.mem_filter.mpr ⟨List.mem_append_right _ (List.mem_append_right _ (List.mem_append_right _ (List.mem_append_right _ (List.mem_append_left _ (List.mem_of_getElem? (i := 75) rfl))))), rfl⟩
theorem tw_375 : Cond.code yX5_ownTilt cX5_ownTilt 5 (some .int) ∈ gT := List.mem_filter.mpr ⟨List.mem_append_right _ (List.mem_append_right _ (List.mem_append_right _ (List.mem_append_right _ (List.mem_append_left _ (List.mem_of_getElem? (i := 71) rfl))))), rfl⟩
theorem tw_376 : Cond.methodLink RX5 28 yX5_turnOf ∈ gT := List.mem_filter.mpr ⟨List.mem_append_right _ (List.mem_append_right _ (List.mem_append_right _ (List.mem_append_right _ (List.mem_append_left _ (List.mem_of_getElem? (i := 72) rfl))))), rfl⟩
theorem tw_377 : Cond.instanceMethod yX5_turnOf ∈ gT := List.mem_filter.mpr ⟨List.mem_append_right _ (List.mem_append_right _ (List.mem_append_right _ (List.mem_append_right _ (List.mem_append_left _ (List.mem_of_getElem? (i := 74) rfl))))), rfl⟩
theorem tw_378 : Cond.selects RX5 yX5_turnOf yX5_turnOf ∈ gT := List.mem_filter.mpr ⟨List.mem_append_left _ (List.mem_of_getElem? (i := 21) rfl), rfl⟩
theorem tw_379 : Cond.methodLink RX5 32 yX5_tilt ∈ gT := List.mem_filter.mpr ⟨List.mem_append_right _ (List.mem_append_right _ (List.mem_append_right _ (List.mem_append_right _ (List.mem_append_left _ (List.mem_of_getElem? (i := 40) rfl))))), rfl⟩
theorem tw_380 : Cond.instanceMethod yX5_tilt ∈ gT := List.mem_filter.mpr ⟨List.mem_append_right _ (List.mem_append_right _ (List.mem_append_right _ (List.mem_append_right _ (List.mem_append_left _ (List.mem_of_getElem? (i := 42) rfl))))), rfl⟩
theorem tw_381 : Cond.selects RX5 yX5_tilt yX5_tilt ∈ gT := List.mem_filter.mpr ⟨List.mem_append_left _ (List.mem_of_getElem? (i := 18) rfl), rfl⟩
theorem tw_382 : Cond.code yX5_wouldRead cX5_wouldRead 4 (some .int) ∈ gT := List.mem_filter.mpr ⟨List.mem_append_right _ (List.mem_append_right _ (List.mem_append_right _ (List.mem_append_right _ (List.mem_append_left _ (List.mem_of_getElem? (i := 67) rfl))))), rfl⟩
theorem tw_383 : Cond.methodLink RX5 36 yX5_ownTilt ∈ gT := List.mem_filter.mpr ⟨List.mem_append_right _ (List.mem_append_right _ (List.mem_append_right _ (List.mem_append_right _ (List.mem_append_left _ (List.mem_of_getElem? (i := 68) rfl))))), rfl⟩
theorem tw_384 : Cond.instanceMethod yX5_ownTilt ∈ gT := List.mem_filter.mpr ⟨List.mem_append_right _ (List.mem_append_right _ (List.mem_append_right _ (List.mem_append_right _ (List.mem_append_left _ (List.mem_of_getElem? (i := 70) rfl))))), rfl⟩
theorem tw_385 : Cond.selects RX5 yX5_ownTilt yX5_ownTilt ∈ gT := List.mem_filter.mpr ⟨List.mem_append_left _ (List.mem_of_getElem? (i := 20) rfl), rfl⟩
theorem tw_386 : Cond.code yX5_placeOf cX5_placeOf 3 (some .int) ∈ gT := List.mem_filter.mpr ⟨List.mem_append_right _ (List.mem_append_right _ (List.mem_append_right _ (List.mem_append_right _ (List.mem_append_left _ (List.mem_of_getElem? (i := 90) rfl))))), rfl⟩
theorem tw_387 : Cond.code yX5_read cX5_read 5 (some .int) ∈ gT := List.mem_filter.mpr ⟨List.mem_append_right _ (List.mem_append_right _ (List.mem_append_right _ (List.mem_append_right _ (List.mem_append_left _ (List.mem_of_getElem? (i := 87) rfl))))), rfl⟩
theorem tw_388 : Cond.methodLink RX5 39 yX5_placeOf ∈ gT := List.mem_filter.mpr ⟨List.mem_append_right _ (List.mem_append_right _ (List.mem_append_right _ (List.mem_append_right _ (List.mem_append_left _ (List.mem_of_getElem? (i := 88) rfl))))), rfl⟩
theorem tw_389 : Cond.static yX5_placeOf ∈ gT := List.mem_filter.mpr ⟨List.mem_append_right _ (List.mem_append_right _ (List.mem_append_right _ (List.mem_append_right _ (List.mem_append_left _ (List.mem_of_getElem? (i := 89) rfl))))), rfl⟩
theorem tw_390 : Cond.code yX5_check cX5_check 4 (some .int) ∈ gT := List.mem_filter.mpr ⟨List.mem_append_right _ (List.mem_append_right _ (List.mem_append_right _ (List.mem_append_right _ (List.mem_append_left _ (List.mem_of_getElem? (i := 162) rfl))))), rfl⟩
theorem tw_391 : Cond.methodLink RX5 43 yX5_read ∈ gT := List.mem_filter.mpr ⟨List.mem_append_right _ (List.mem_append_right _ (List.mem_append_right _ (List.mem_append_right _ (List.mem_append_left _ (List.mem_of_getElem? (i := 84) rfl))))), rfl⟩
theorem tw_392 : Cond.instanceMethod yX5_read ∈ gT := List.mem_filter.mpr ⟨List.mem_append_right _ (List.mem_append_right _ (List.mem_append_right _ (List.mem_append_right _ (List.mem_append_left _ (List.mem_of_getElem? (i := 86) rfl))))), rfl⟩
theorem tw_393 : Cond.selects RX5 yX5_read yX5_read ∈ gT := List.mem_filter.mpr ⟨List.mem_append_left _ (List.mem_of_getElem? (i := 22) rfl), rfl⟩
theorem tw_394 : Cond.code yX5_common cX5_common 9 (some .int) ∈ gT := List.mem_filter.mpr ⟨List.mem_append_right _ (List.mem_append_right _ (List.mem_append_right _ (List.mem_append_right _ (List.mem_append_left _ (List.mem_of_getElem? (i := 170) rfl))))), rfl⟩
theorem tw_395 : Cond.methodLink RX5 47 yX5_check ∈ gT := List.mem_filter.mpr ⟨List.mem_append_right _ (List.mem_append_right _ (List.mem_append_right _ (List.mem_append_right _ (List.mem_append_left _ (List.mem_of_getElem? (i := 159) rfl))))), rfl⟩
theorem tw_396 : Cond.instanceMethod yX5_check ∈ gT := List.mem_filter.mpr ⟨List.mem_append_right _ (List.mem_append_right _ (List.mem_append_right _ (List.mem_append_right _ (List.mem_append_left _ (List.mem_of_getElem? (i := 161) rfl))))), rfl⟩
theorem tw_397 : Cond.selects RX5 yX5_check yX5_check ∈ gT := List.mem_filter.mpr ⟨List.mem_append_left _ (List.mem_of_getElem? (i := 31) rfl), rfl⟩
theorem tw_398 : Cond.code yX5_isSuspicious cX5_isSuspicious 4 (some .boolean) ∈ gT := List.mem_filter.mpr ⟨List.mem_append_right _ (List.mem_append_right _ (List.mem_append_right _ (List.mem_append_right _ (List.mem_append_left _ (List.mem_of_getElem? (i := 166) rfl))))), rfl⟩
theorem tw_399 : Cond.methodLink RX5 50 yX5_common ∈ gT := List.mem_filter.mpr ⟨List.mem_append_right _ (List.mem_append_right _ (List.mem_append_right _ (List.mem_append_right _ (List.mem_append_left _ (List.mem_of_getElem? (i := 167) rfl))))), rfl⟩
theorem tw_400 : Cond.instanceMethod yX5_common ∈ gT := List.mem_filter.mpr ⟨List.mem_append_right _ (List.mem_append_right _ (List.mem_append_right _ (List.mem_append_right _ (List.mem_append_left _ (List.mem_of_getElem? (i := 169) rfl))))), rfl⟩
theorem tw_401 : Cond.selects RX5 yX5_common yX5_common ∈ gT := List.mem_filter.mpr ⟨List.mem_append_left _ (List.mem_of_getElem? (i := 33) rfl), rfl⟩
theorem tw_402 : Cond.methodLink RX5 53 yX5_size ∈ gT := List.mem_filter.mpr ⟨List.mem_append_right _ (List.mem_append_right _ (List.mem_append_right _ (List.mem_append_right _ (List.mem_append_left _ (List.mem_of_getElem? (i := 171) rfl))))), rfl⟩
theorem tw_403 : Cond.static yX5_size ∈ gT := List.mem_filter.mpr ⟨List.mem_append_right _ (List.mem_append_right _ (List.mem_append_right _ (List.mem_append_right _ (List.mem_append_left _ (List.mem_of_getElem? (i := 172) rfl))))), rfl⟩
theorem tw_404 : Cond.code yX5_tiltRead cX5_tiltRead 11 (some .int) ∈ gT := List.mem_filter.mpr ⟨List.mem_append_right _ (List.mem_append_right _ (List.mem_append_right _ (List.mem_append_right _ (List.mem_append_left _ (List.mem_of_getElem? (i := 177) rfl))))), rfl⟩
theorem tw_405 : Cond.methodLink RX5 56 yX5_isSuspicious ∈ gT := List.mem_filter.mpr ⟨List.mem_append_right _ (List.mem_append_right _ (List.mem_append_right _ (List.mem_append_right _ (List.mem_append_left _ (List.mem_of_getElem? (i := 163) rfl))))), rfl⟩
theorem tw_406 : Cond.instanceMethod yX5_isSuspicious ∈ gT := List.mem_filter.mpr ⟨List.mem_append_right _ (List.mem_append_right _ (List.mem_append_right _ (List.mem_append_right _ (List.mem_append_left _ (List.mem_of_getElem? (i := 165) rfl))))), rfl⟩
theorem tw_407 : Cond.selects RX5 yX5_isSuspicious yX5_isSuspicious ∈ gT := List.mem_filter.mpr ⟨List.mem_append_left _ (List.mem_of_getElem? (i := 32) rfl), rfl⟩
theorem tw_408 : Cond.code yX5_tiltTold cX5_tiltTold 6 (some .int) ∈ gT := List.mem_filter.mpr ⟨List.mem_append_right _ (List.mem_append_right _ (List.mem_append_right _ (List.mem_append_right _ (List.mem_append_left _ (List.mem_of_getElem? (i := 181) rfl))))), rfl⟩
theorem tw_409 : Cond.methodLink RX5 59 yX5_tiltRead ∈ gT := List.mem_filter.mpr ⟨List.mem_append_right _ (List.mem_append_right _ (List.mem_append_right _ (List.mem_append_right _ (List.mem_append_left _ (List.mem_of_getElem? (i := 174) rfl))))), rfl⟩
theorem tw_410 : Cond.instanceMethod yX5_tiltRead ∈ gT := List.mem_filter.mpr ⟨List.mem_append_right _ (List.mem_append_right _ (List.mem_append_right _ (List.mem_append_right _ (List.mem_append_left _ (List.mem_of_getElem? (i := 176) rfl))))), rfl⟩
theorem tw_411 : Cond.selects RX5 yX5_tiltRead yX5_tiltRead ∈ gT := List.mem_filter.mpr ⟨List.mem_append_left _ (List.mem_of_getElem? (i := 34) rfl), rfl⟩
theorem tw_412 : Cond.code yX5_placeAt cX5_placeAt 6 (some .int) ∈ gT := List.mem_filter.mpr ⟨List.mem_append_right _ (List.mem_append_right _ (List.mem_append_right _ (List.mem_append_right _ (List.mem_append_left _ (List.mem_of_getElem? (i := 205) rfl))))), rfl⟩
theorem tw_413 : Cond.methodLink RX5 62 yX5_tiltTold ∈ gT := List.mem_filter.mpr ⟨List.mem_append_right _ (List.mem_append_right _ (List.mem_append_right _ (List.mem_append_right _ (List.mem_append_left _ (List.mem_of_getElem? (i := 178) rfl))))), rfl⟩
theorem tw_414 : Cond.instanceMethod yX5_tiltTold ∈ gT := List.mem_filter.mpr ⟨List.mem_append_right _ (List.mem_append_right _ (List.mem_append_right _ (List.mem_append_right _ (List.mem_append_left _ (List.mem_of_getElem? (i := 180) rfl))))), rfl⟩
theorem tw_415 : Cond.selects RX5 yX5_tiltTold yX5_tiltTold ∈ gT := List.mem_filter.mpr ⟨List.mem_append_left _ (List.mem_of_getElem? (i := 35) rfl), rfl⟩
theorem tw_416 : Cond.code yX5_copies cX5_copies 4 none ∈ gT := List.mem_filter.mpr ⟨List.mem_append_right _ (List.mem_append_right _ (List.mem_append_right _ (List.mem_append_right _ (List.mem_append_left _ (List.mem_of_getElem? (i := 35) rfl))))), rfl⟩
theorem tw_417 : Cond.code yX5_save cX5_save 2 none ∈ gT := List.mem_filter.mpr ⟨List.mem_append_right _ (List.mem_append_right _ (List.mem_append_right _ (List.mem_append_right _ (List.mem_append_left _ (List.mem_of_getElem? (i := 31) rfl))))), rfl⟩
theorem tw_418 : Cond.fieldLink RX5 65 "SlotProbeModel" "saved" "I" ∈ gT := List.mem_filter.mpr ⟨List.mem_append_right _ (List.mem_append_right _ (List.mem_append_right _ (List.mem_append_left _ (List.mem_of_getElem? (i := 214) rfl)))), rfl⟩
theorem tw_419 : Cond.methodLink RX5 68 yX5_copies ∈ gT := List.mem_filter.mpr ⟨List.mem_append_right _ (List.mem_append_right _ (List.mem_append_right _ (List.mem_append_right _ (List.mem_append_left _ (List.mem_of_getElem? (i := 32) rfl))))), rfl⟩
theorem tw_420 : Cond.instanceMethod yX5_copies ∈ gT := List.mem_filter.mpr ⟨List.mem_append_right _ (List.mem_append_right _ (List.mem_append_right _ (List.mem_append_right _ (List.mem_append_left _ (List.mem_of_getElem? (i := 34) rfl))))), rfl⟩
theorem tw_421 : Cond.selects RX5 yX5_copies yX5_copies ∈ gT := List.mem_filter.mpr ⟨List.mem_append_left _ (List.mem_of_getElem? (i := 17) rfl), rfl⟩
theorem tw_422 : Cond.code yX5_changed cX5_changed 4 (some .int) ∈ gT := List.mem_filter.mpr ⟨List.mem_append_right _ (List.mem_append_right _ (List.mem_append_right _ (List.mem_append_right _ (List.mem_append_left _ (List.mem_of_getElem? (i := 27) rfl))))), rfl⟩
theorem tw_423 : Cond.methodLink RX5 72 yX5_save ∈ gT := List.mem_filter.mpr ⟨List.mem_append_right _ (List.mem_append_right _ (List.mem_append_right _ (List.mem_append_right _ (List.mem_append_left _ (List.mem_of_getElem? (i := 28) rfl))))), rfl⟩
theorem tw_424 : Cond.instanceMethod yX5_save ∈ gT := List.mem_filter.mpr ⟨List.mem_append_right _ (List.mem_append_right _ (List.mem_append_right _ (List.mem_append_right _ (List.mem_append_left _ (List.mem_of_getElem? (i := 30) rfl))))), rfl⟩
theorem tw_425 : Cond.selects RX5 yX5_save yX5_save ∈ gT := List.mem_filter.mpr ⟨List.mem_append_left _ (List.mem_of_getElem? (i := 16) rfl), rfl⟩
theorem tw_426 : Cond.code yX5_bend cX5_bend 5 (some .int) ∈ gT := List.mem_filter.mpr ⟨List.mem_append_right _ (List.mem_append_right _ (List.mem_append_right _ (List.mem_append_right _ (List.mem_append_left _ (List.mem_of_getElem? (i := 10) rfl))))), rfl⟩
theorem tw_427 : Cond.methodLink RX5 75 yX5_isLevel ∈ gT := List.mem_filter.mpr ⟨List.mem_append_right _ (List.mem_append_right _ (List.mem_append_right _ (List.mem_append_right _ (List.mem_append_left _ (List.mem_of_getElem? (i := 11) rfl))))), rfl⟩
theorem tw_428 : Cond.static yX5_isLevel ∈ gT := List.mem_filter.mpr ⟨List.mem_append_right _ (List.mem_append_right _ (List.mem_append_right _ (List.mem_append_right _ (List.mem_append_left _ (List.mem_of_getElem? (i := 12) rfl))))), rfl⟩
theorem tw_429 : Cond.methodLink RX5 79 yX5_isSide ∈ gT := List.mem_filter.mpr ⟨List.mem_append_right _ (List.mem_append_right _ (List.mem_append_right _ (List.mem_append_right _ (List.mem_append_left _ (List.mem_of_getElem? (i := 17) rfl))))), rfl⟩
theorem tw_430 : Cond.static yX5_isSide ∈ gT := List.mem_filter.mpr ⟨List.mem_append_right _ (List.mem_append_right _ (List.mem_append_right _ (List.mem_append_right _ (List.mem_append_left _ (List.mem_of_getElem? (i := 18) rfl))))), rfl⟩
theorem tw_431 : Cond.methodLink RX5 82 yX5_holds ∈ gT := List.mem_filter.mpr ⟨List.mem_append_right _ (List.mem_append_right _ (List.mem_append_right _ (List.mem_append_right _ (List.mem_append_left _ (List.mem_of_getElem? (i := 20) rfl))))), rfl⟩
theorem tw_432 : Cond.instanceMethod yX5_holds ∈ gT := List.mem_filter.mpr ⟨List.mem_append_right _ (List.mem_append_right _ (List.mem_append_right _ (List.mem_append_right _ (List.mem_append_left _ (List.mem_of_getElem? (i := 22) rfl))))), rfl⟩
theorem tw_433 : Cond.selects RX5 yX5_holds yX5_holds ∈ gT := List.mem_filter.mpr ⟨List.mem_append_left _ (List.mem_of_getElem? (i := 14) rfl), rfl⟩
theorem tw_434 : Cond.methodLink RX5 85 yX5_changed ∈ gT := List.mem_filter.mpr ⟨List.mem_append_right _ (List.mem_append_right _ (List.mem_append_right _ (List.mem_append_right _ (List.mem_append_left _ (List.mem_of_getElem? (i := 24) rfl))))), rfl⟩
theorem tw_435 : Cond.instanceMethod yX5_changed ∈ gT := List.mem_filter.mpr ⟨List.mem_append_right _ (List.mem_append_right _ (List.mem_append_right _ (List.mem_append_right _ (List.mem_append_left _ (List.mem_of_getElem? (i := 26) rfl))))), rfl⟩
theorem tw_436 : Cond.selects RX5 yX5_changed yX5_changed ∈ gT := List.mem_filter.mpr ⟨List.mem_append_left _ (List.mem_of_getElem? (i := 15) rfl), rfl⟩
theorem tw_437 : Cond.code yX5_slide cX5_slide 6 (some .int) ∈ gT := List.mem_filter.mpr ⟨List.mem_append_right _ (List.mem_append_right _ (List.mem_append_right _ (List.mem_append_right _ (List.mem_append_left _ (List.mem_of_getElem? (i := 39) rfl))))), rfl⟩
theorem tw_438 : Cond.code yX5_turn cX5_turn 3 (some .int) ∈ gT := List.mem_filter.mpr ⟨List.mem_append_right _ (List.mem_append_right _ (List.mem_append_right _ (List.mem_append_right _ (List.mem_append_left _ (List.mem_of_getElem? (i := 47) rfl))))), rfl⟩
theorem tw_439 : Cond.code yX5_bias cX5_bias 3 (some .int) ∈ gT := List.mem_filter.mpr ⟨List.mem_append_right _ (List.mem_append_right _ (List.mem_append_right _ (List.mem_append_right _ (List.mem_append_left _ (List.mem_of_getElem? (i := 51) rfl))))), rfl⟩
theorem tw_440 : Cond.code yX5_set cX5_set 4 (some .int) ∈ gT := List.mem_filter.mpr ⟨List.mem_append_right _ (List.mem_append_right _ (List.mem_append_right _ (List.mem_append_right _ (List.mem_append_left _ (List.mem_of_getElem? (i := 55) rfl))))), rfl⟩
theorem tw_441 : Cond.code yX5_pass cX5_pass 2 (some .int) ∈ gT := List.mem_filter.mpr ⟨List.mem_append_right _ (List.mem_append_right _ (List.mem_append_right _ (List.mem_append_right _ (List.mem_append_left _ (List.mem_of_getElem? (i := 59) rfl))))), rfl⟩
theorem tw_442 : Cond.code yX5_survey cX5_survey 3 (some .int) ∈ gT := List.mem_filter.mpr ⟨List.mem_append_right _ (List.mem_append_right _ (List.mem_append_right _ (List.mem_append_right _ (List.mem_append_left _ (List.mem_of_getElem? (i := 63) rfl))))), rfl⟩
theorem tw_443 : Cond.methodLink RX5 88 yX5_wouldRead ∈ gT := List.mem_filter.mpr ⟨List.mem_append_right _ (List.mem_append_right _ (List.mem_append_right _ (List.mem_append_right _ (List.mem_append_left _ (List.mem_of_getElem? (i := 64) rfl))))), rfl⟩
theorem tw_444 : Cond.instanceMethod yX5_wouldRead ∈ gT := List.mem_filter.mpr ⟨List.mem_append_right _ (List.mem_append_right _ (List.mem_append_right _ (List.mem_append_right _ (List.mem_append_left _ (List.mem_of_getElem? (i := 66) rfl))))), rfl⟩
theorem tw_445 : Cond.selects RX5 yX5_wouldRead yX5_wouldRead ∈ gT := List.mem_filter.mpr ⟨List.mem_append_left _ (List.mem_of_getElem? (i := 19) rfl), rfl⟩
theorem tw_446 : Cond.code yX5_drop cX5_drop 1 (some .int) ∈ gT := List.mem_filter.mpr ⟨List.mem_append_right _ (List.mem_append_right _ (List.mem_append_right _ (List.mem_append_right _ (List.mem_append_left _ (List.mem_of_getElem? (i := 79) rfl))))), rfl⟩
theorem tw_447 : Cond.code yX5_spoil cX5_spoil 8 (some .int) ∈ gT := List.mem_filter.mpr ⟨List.mem_append_right _ (List.mem_append_right _ (List.mem_append_right _ (List.mem_append_right _ (List.mem_append_left _ (List.mem_of_getElem? (i := 83) rfl))))), rfl⟩
theorem tw_448 : Cond.code yX5_append cX5_append 2 (some .int) ∈ gT := List.mem_filter.mpr ⟨List.mem_append_right _ (List.mem_append_right _ (List.mem_append_right _ (List.mem_append_right _ (List.mem_append_left _ (List.mem_of_getElem? (i := 94) rfl))))), rfl⟩
theorem tw_449 : Cond.fieldLink RX5 91 "SlotProbeModel" "length" "I" ∈ gT := List.mem_filter.mpr ⟨List.mem_append_right _ (List.mem_append_right _ (List.mem_append_right _ (List.mem_append_left _ (List.mem_of_getElem? (i := 217) rfl)))), rfl⟩
theorem tw_450 : Cond.code yX5_clearBuffer cX5_clearBuffer 2 (some .int) ∈ gT := List.mem_filter.mpr ⟨List.mem_append_right _ (List.mem_append_right _ (List.mem_append_right _ (List.mem_append_right _ (List.mem_append_left _ (List.mem_of_getElem? (i := 98) rfl))))), rfl⟩
theorem tw_451 : Cond.code yX5_sign cX5_sign 1 (some .int) ∈ gT := List.mem_filter.mpr ⟨List.mem_append_right _ (List.mem_append_right _ (List.mem_append_right _ (List.mem_append_right _ (List.mem_append_left _ (List.mem_of_getElem? (i := 118) rfl))))), rfl⟩
theorem tw_452 : Cond.fieldLink RX5 94 "SlotProbeModel" "at" "I" ∈ gT := List.mem_filter.mpr ⟨List.mem_append_right _ (List.mem_append_right _ (List.mem_append_right _ (List.mem_append_left _ (List.mem_of_getElem? (i := 218) rfl)))), rfl⟩
theorem tw_453 : Cond.code yX5_takes cX5_takes 3 (some .boolean) ∈ gT := List.mem_filter.mpr ⟨List.mem_append_right _ (List.mem_append_right _ (List.mem_append_right _ (List.mem_append_right _ (List.mem_append_left _ (List.mem_of_getElem? (i := 122) rfl))))), rfl⟩
theorem tw_454 : Cond.methodLink RX5 97 yX5_sign ∈ gT := List.mem_filter.mpr ⟨List.mem_append_right _ (List.mem_append_right _ (List.mem_append_right _ (List.mem_append_right _ (List.mem_append_left _ (List.mem_of_getElem? (i := 115) rfl))))), rfl⟩
theorem tw_455 : Cond.instanceMethod yX5_sign ∈ gT := List.mem_filter.mpr ⟨List.mem_append_right _ (List.mem_append_right _ (List.mem_append_right _ (List.mem_append_right _ (List.mem_append_left _ (List.mem_of_getElem? (i := 117) rfl))))), rfl⟩
theorem tw_456 : Cond.selects RX5 yX5_sign yX5_sign ∈ gT := List.mem_filter.mpr ⟨List.mem_append_left _ (List.mem_of_getElem? (i := 26) rfl), rfl⟩
theorem tw_457 : Cond.code yX5_readsNumber cX5_readsNumber 3 (some .boolean) ∈ gT := List.mem_filter.mpr ⟨List.mem_append_right _ (List.mem_append_right _ (List.mem_append_right _ (List.mem_append_right _ (List.mem_append_left _ (List.mem_of_getElem? (i := 114) rfl))))), rfl⟩
theorem tw_458 : Cond.fieldLink RX5 101 "SlotProbeModel" "value" "I" ∈ gT := List.mem_filter.mpr ⟨List.mem_append_right _ (List.mem_append_right _ (List.mem_append_right _ (List.mem_append_left _ (List.mem_of_getElem? (i := 220) rfl)))), rfl⟩
theorem tw_459 : Cond.code yX5_readsReading cX5_readsReading 6 (some .boolean) ∈ gT := List.mem_filter.mpr ⟨List.mem_append_right _ (List.mem_append_right _ (List.mem_append_right _ (List.mem_append_right _ (List.mem_append_left _ (List.mem_of_getElem? (i := 110) rfl))))), rfl⟩
theorem tw_460 : Cond.fieldLink RX5 111 "SlotProbeModel" "place" "I" ∈ gT := List.mem_filter.mpr ⟨List.mem_append_right _ (List.mem_append_right _ (List.mem_append_right _ (List.mem_append_left _ (List.mem_of_getElem? (i := 219) rfl)))), rfl⟩
theorem tw_461 : Cond.methodLink RX5 104 yX5_readsNumber ∈ gT := List.mem_filter.mpr ⟨List.mem_append_right _ (List.mem_append_right _ (List.mem_append_right _ (List.mem_append_right _ (List.mem_append_left _ (List.mem_of_getElem? (i := 111) rfl))))), rfl⟩
theorem tw_462 : Cond.instanceMethod yX5_readsNumber ∈ gT := List.mem_filter.mpr ⟨List.mem_append_right _ (List.mem_append_right _ (List.mem_append_right _ (List.mem_append_right _ (List.mem_append_left _ (List.mem_of_getElem? (i := 113) rfl))))), rfl⟩
theorem tw_463 : Cond.selects RX5 yX5_readsNumber yX5_readsNumber ∈ gT := List.mem_filter.mpr ⟨List.mem_append_left _ (List.mem_of_getElem? (i := 25) rfl), rfl⟩
theorem tw_464 : Cond.methodLink RX5 108 yX5_takes ∈ gT := List.mem_filter.mpr ⟨List.mem_append_right _ (List.mem_append_right _ (List.mem_append_right _ (List.mem_append_right _ (List.mem_append_left _ (List.mem_of_getElem? (i := 119) rfl))))), rfl⟩
theorem tw_465 : Cond.instanceMethod yX5_takes ∈ gT := List.mem_filter.mpr ⟨List.mem_append_right _ (List.mem_append_right _ (List.mem_append_right _ (List.mem_append_right _ (List.mem_append_left _ (List.mem_of_getElem? (i := 121) rfl))))), rfl⟩
theorem tw_466 : Cond.selects RX5 yX5_takes yX5_takes ∈ gT := List.mem_filter.mpr ⟨List.mem_append_left _ (List.mem_of_getElem? (i := 27) rfl), rfl⟩
theorem tw_467 : Cond.code yX5_areReadings cX5_areReadings 1 (some .boolean) ∈ gT := List.mem_filter.mpr ⟨List.mem_append_right _ (List.mem_append_right _ (List.mem_append_right _ (List.mem_append_right _ (List.mem_append_left _ (List.mem_of_getElem? (i := 106) rfl))))), rfl⟩
theorem tw_468 : Cond.methodLink RX5 114 yX5_readsReading ∈ gT := List.mem_filter.mpr ⟨List.mem_append_right _ (List.mem_append_right _ (List.mem_append_right _ (List.mem_append_right _ (List.mem_append_left _ (List.mem_of_getElem? (i := 107) rfl))))), rfl⟩
theorem tw_469 : Cond.instanceMethod yX5_readsReading ∈ gT := List.mem_filter.mpr ⟨List.mem_append_right _ (List.mem_append_right _ (List.mem_append_right _ (List.mem_append_right _ (List.mem_append_left _ (List.mem_of_getElem? (i := 109) rfl))))), rfl⟩
theorem tw_470 : Cond.selects RX5 yX5_readsReading yX5_readsReading ∈ gT := List.mem_filter.mpr ⟨List.mem_append_left _ (List.mem_of_getElem? (i := 24) rfl), rfl⟩
theorem tw_471 : Cond.code yX5_firstError cX5_firstError 1 (some .int) ∈ gT := List.mem_filter.mpr ⟨List.mem_append_right _ (List.mem_append_right _ (List.mem_append_right _ (List.mem_append_right _ (List.mem_append_left _ (List.mem_of_getElem? (i := 102) rfl))))), rfl⟩
theorem tw_472 : Cond.methodLink RX5 118 yX5_areReadings ∈ gT := List.mem_filter.mpr ⟨List.mem_append_right _ (List.mem_append_right _ (List.mem_append_right _ (List.mem_append_right _ (List.mem_append_left _ (List.mem_of_getElem? (i := 103) rfl))))), rfl⟩
theorem tw_473 : Cond.instanceMethod yX5_areReadings ∈ gT := List.mem_filter.mpr ⟨List.mem_append_right _ (List.mem_append_right _ (List.mem_append_right _ (List.mem_append_right _ (List.mem_append_left _ (List.mem_of_getElem? (i := 105) rfl))))), rfl⟩
theorem tw_474 : Cond.selects RX5 yX5_areReadings yX5_areReadings ∈ gT := List.mem_filter.mpr ⟨List.mem_append_left _ (List.mem_of_getElem? (i := 23) rfl), rfl⟩
theorem tw_475 : Cond.code yX5_load cX5_load 2 (some .int) ∈ gT := List.mem_filter.mpr ⟨List.mem_append_right _ (List.mem_append_right _ (List.mem_append_right _ (List.mem_append_right _ (List.mem_append_left _ (List.mem_of_getElem? (i := 126) rfl))))), rfl⟩
theorem tw_476 : Cond.code yX5_keep cX5_keep 2 (some .int) ∈ gT := List.mem_filter.mpr ⟨List.mem_append_right _ (List.mem_append_right _ (List.mem_append_right _ (List.mem_append_right _ (List.mem_append_left _ (List.mem_of_getElem? (i := 130) rfl))))), rfl⟩
theorem tw_477 : Cond.code yX5_goBack cX5_goBack 2 (some .int) ∈ gT := List.mem_filter.mpr ⟨List.mem_append_right _ (List.mem_append_right _ (List.mem_append_right _ (List.mem_append_right _ (List.mem_append_left _ (List.mem_of_getElem? (i := 134) rfl))))), rfl⟩
theorem tw_478 : Cond.code yX5_undo cX5_undo 1 (some .int) ∈ gT := List.mem_filter.mpr ⟨List.mem_append_right _ (List.mem_append_right _ (List.mem_append_right _ (List.mem_append_right _ (List.mem_append_left _ (List.mem_of_getElem? (i := 138) rfl))))), rfl⟩
theorem tw_479 : Cond.code yX5_ofLevel cX5_ofLevel 3 (some .int) ∈ gT := List.mem_filter.mpr ⟨List.mem_append_right _ (List.mem_append_right _ (List.mem_append_right _ (List.mem_append_right _ (List.mem_append_left _ (List.mem_of_getElem? (i := 146) rfl))))), rfl⟩
theorem tw_480 : Cond.code yX5_levelOf cX5_levelOf 3 (some .int) ∈ gT := List.mem_filter.mpr ⟨List.mem_append_right _ (List.mem_append_right _ (List.mem_append_right _ (List.mem_append_right _ (List.mem_append_left _ (List.mem_of_getElem? (i := 142) rfl))))), rfl⟩
theorem tw_481 : Cond.methodLink RX5 121 yX5_ofLevel ∈ gT := List.mem_filter.mpr ⟨List.mem_append_right _ (List.mem_append_right _ (List.mem_append_right _ (List.mem_append_right _ (List.mem_append_left _ (List.mem_of_getElem? (i := 143) rfl))))), rfl⟩
theorem tw_482 : Cond.instanceMethod yX5_ofLevel ∈ gT := List.mem_filter.mpr ⟨List.mem_append_right _ (List.mem_append_right _ (List.mem_append_right _ (List.mem_append_right _ (List.mem_append_left _ (List.mem_of_getElem? (i := 145) rfl))))), rfl⟩
theorem tw_483 : Cond.selects RX5 yX5_ofLevel yX5_ofLevel ∈ gT := List.mem_filter.mpr ⟨List.mem_append_left _ (List.mem_of_getElem? (i := 28) rfl), rfl⟩
theorem tw_484 : Cond.code yX5_ofReading cX5_ofReading 5 (some .int) ∈ gT := List.mem_filter.mpr ⟨List.mem_append_right _ (List.mem_append_right _ (List.mem_append_right _ (List.mem_append_right _ (List.mem_append_left _ (List.mem_of_getElem? (i := 158) rfl))))), rfl⟩
theorem tw_485 : Cond.code yX5_reading cX5_reading 6 (some .int) ∈ gT := List.mem_filter.mpr ⟨List.mem_append_right _ (List.mem_append_right _ (List.mem_append_right _ (List.mem_append_right _ (List.mem_append_left _ (List.mem_of_getElem? (i := 150) rfl))))), rfl⟩
theorem tw_486 : Cond.methodLink RX5 124 yX5_isSurvey ∈ gT := List.mem_filter.mpr ⟨List.mem_append_right _ (List.mem_append_right _ (List.mem_append_right _ (List.mem_append_right _ (List.mem_append_left _ (List.mem_of_getElem? (i := 151) rfl))))), rfl⟩
theorem tw_487 : Cond.instanceMethod yX5_isSurvey ∈ gT := List.mem_filter.mpr ⟨List.mem_append_right _ (List.mem_append_right _ (List.mem_append_right _ (List.mem_append_right _ (List.mem_append_left _ (List.mem_of_getElem? (i := 153) rfl))))), rfl⟩
theorem tw_488 : Cond.selects RX5 yX5_isSurvey yX5_isSurvey ∈ gT := List.mem_filter.mpr ⟨List.mem_append_left _ (List.mem_of_getElem? (i := 29) rfl), rfl⟩
theorem tw_489 : Cond.methodLink RX5 127 yX5_ofReading ∈ gT := List.mem_filter.mpr ⟨List.mem_append_right _ (List.mem_append_right _ (List.mem_append_right _ (List.mem_append_right _ (List.mem_append_left _ (List.mem_of_getElem? (i := 155) rfl))))), rfl⟩
theorem tw_490 : Cond.instanceMethod yX5_ofReading ∈ gT := List.mem_filter.mpr ⟨List.mem_append_right _ (List.mem_append_right _ (List.mem_append_right _ (List.mem_append_right _ (List.mem_append_left _ (List.mem_of_getElem? (i := 157) rfl))))), rfl⟩
theorem tw_491 : Cond.selects RX5 yX5_ofReading yX5_ofReading ∈ gT := List.mem_filter.mpr ⟨List.mem_append_left _ (List.mem_of_getElem? (i := 30) rfl), rfl⟩
theorem tw_492 : Cond.code yX5_suspicious cX5_suspicious 4 (some .int) ∈ gT := List.mem_filter.mpr ⟨List.mem_append_right _ (List.mem_append_right _ (List.mem_append_right _ (List.mem_append_right _ (List.mem_append_left _ (List.mem_of_getElem? (i := 193) rfl))))), rfl⟩
theorem tw_493 : Cond.code yX5_worstLevel cX5_worstLevel 6 (some .int) ∈ gT := List.mem_filter.mpr ⟨List.mem_append_right _ (List.mem_append_right _ (List.mem_append_right _ (List.mem_append_right _ (List.mem_append_left _ (List.mem_of_getElem? (i := 197) rfl))))), rfl⟩
theorem tw_494 : Cond.code yX5_ofSurvey cX5_ofSurvey 3 (some .int) ∈ gT := List.mem_filter.mpr ⟨List.mem_append_right _ (List.mem_append_right _ (List.mem_append_right _ (List.mem_append_right _ (List.mem_append_left _ (List.mem_of_getElem? (i := 189) rfl))))), rfl⟩
theorem tw_495 : Cond.methodLink RX5 130 yX5_suspicious ∈ gT := List.mem_filter.mpr ⟨List.mem_append_right _ (List.mem_append_right _ (List.mem_append_right _ (List.mem_append_right _ (List.mem_append_left _ (List.mem_of_getElem? (i := 190) rfl))))), rfl⟩
theorem tw_496 : Cond.instanceMethod yX5_suspicious ∈ gT := List.mem_filter.mpr ⟨List.mem_append_right _ (List.mem_append_right _ (List.mem_append_right _ (List.mem_append_right _ (List.mem_append_left _ (List.mem_of_getElem? (i := 192) rfl))))), rfl⟩
theorem tw_497 : Cond.selects RX5 yX5_suspicious yX5_suspicious ∈ gT := List.mem_filter.mpr ⟨List.mem_append_left _ (List.mem_of_getElem? (i := 37) rfl), rfl⟩
theorem tw_498 : Cond.methodLink RX5 133 yX5_worstLevel ∈ gT := List.mem_filter.mpr ⟨List.mem_append_right _ (List.mem_append_right _ (List.mem_append_right _ (List.mem_append_right _ (List.mem_append_left _ (List.mem_of_getElem? (i := 194) rfl))))), rfl⟩
theorem tw_499 : Cond.instanceMethod yX5_worstLevel ∈ gT := List.mem_filter.mpr ⟨List.mem_append_right _ (List.mem_append_right _ (List.mem_append_right _ (List.mem_append_right _ (List.mem_append_left _ (List.mem_of_getElem? (i := 196) rfl))))), rfl⟩
theorem tw_500 : Cond.selects RX5 yX5_worstLevel yX5_worstLevel ∈ gT := List.mem_filter.mpr ⟨List.mem_append_left _ (List.mem_of_getElem? (i := 38) rfl), rfl⟩
theorem tw_501 : Cond.code yX5_surveyOf cX5_surveyOf 3 (some .int) ∈ gT := List.mem_filter.mpr ⟨List.mem_append_right _ (List.mem_append_right _ (List.mem_append_right _ (List.mem_append_right _ (List.mem_append_left _ (List.mem_of_getElem? (i := 185) rfl))))), rfl⟩
theorem tw_502 : Cond.methodLink RX5 136 yX5_ofSurvey ∈ gT := List.mem_filter.mpr ⟨List.mem_append_right _ (List.mem_append_right _ (List.mem_append_right _ (List.mem_append_right _ (List.mem_append_left _ (List.mem_of_getElem? (i := 186) rfl))))), rfl⟩
theorem tw_503 : Cond.instanceMethod yX5_ofSurvey ∈ gT := List.mem_filter.mpr ⟨List.mem_append_right _ (List.mem_append_right _ (List.mem_append_right _ (List.mem_append_right _ (List.mem_append_left _ (List.mem_of_getElem? (i := 188) rfl))))), rfl⟩
theorem tw_504 : Cond.selects RX5 yX5_ofSurvey yX5_ofSurvey ∈ gT := List.mem_filter.mpr ⟨List.mem_append_left _ (List.mem_of_getElem? (i := 36) rfl), rfl⟩
theorem tw_505 : Cond.code yX5_place cX5_place 6 (some .int) ∈ gT := List.mem_filter.mpr ⟨List.mem_append_right _ (List.mem_append_right _ (List.mem_append_right _ (List.mem_append_right _ (List.mem_append_left _ (List.mem_of_getElem? (i := 201) rfl))))), rfl⟩
theorem tw_506 : Cond.methodLink RX5 139 yX5_placeAt ∈ gT := List.mem_filter.mpr ⟨List.mem_append_right _ (List.mem_append_right _ (List.mem_append_right _ (List.mem_append_right _ (List.mem_append_left _ (List.mem_of_getElem? (i := 202) rfl))))), rfl⟩
theorem tw_507 : Cond.instanceMethod yX5_placeAt ∈ gT := List.mem_filter.mpr ⟨List.mem_append_right _ (List.mem_append_right _ (List.mem_append_right _ (List.mem_append_right _ (List.mem_append_left _ (List.mem_of_getElem? (i := 204) rfl))))), rfl⟩
theorem tw_508 : Cond.selects RX5 yX5_placeAt yX5_placeAt ∈ gT := List.mem_filter.mpr ⟨List.mem_append_left _ (List.mem_of_getElem? (i := 39) rfl), rfl⟩
theorem tw_509 : Cond.code yX5_turned cX5_turned 3 (some .int) ∈ gT := List.mem_filter.mpr ⟨List.mem_append_right _ (List.mem_append_right _ (List.mem_append_right _ (List.mem_append_right _ (List.mem_append_left _ (List.mem_of_getElem? (i := 217) rfl))))), rfl⟩
theorem tw_510 : Cond.code yX5_counted cX5_counted 2 (some .int) ∈ gT := List.mem_filter.mpr ⟨List.mem_append_right _ (List.mem_append_right _ (List.mem_append_right _ (List.mem_append_right _ (List.mem_append_left _ (List.mem_of_getElem? (i := 213) rfl))))), rfl⟩
theorem tw_511 : Cond.methodLink RX5 142 yX5_turned ∈ gT := List.mem_filter.mpr ⟨List.mem_append_right _ (List.mem_append_right _ (List.mem_append_right _ (List.mem_append_right _ (List.mem_append_left _ (List.mem_of_getElem? (i := 214) rfl))))), rfl⟩
theorem tw_512 : Cond.instanceMethod yX5_turned ∈ gT := List.mem_filter.mpr ⟨List.mem_append_right _ (List.mem_append_right _ (List.mem_append_right _ (List.mem_append_right _ (List.mem_append_left _ (List.mem_of_getElem? (i := 216) rfl))))), rfl⟩
theorem tw_513 : Cond.selects RX5 yX5_turned yX5_turned ∈ gT := List.mem_filter.mpr ⟨List.mem_append_left _ (List.mem_of_getElem? (i := 41) rfl), rfl⟩
theorem tw_514 : Cond.code yX5_count cX5_count 2 (some .int) ∈ gT := List.mem_filter.mpr ⟨List.mem_append_right _ (List.mem_append_right _ (List.mem_append_right _ (List.mem_append_right _ (List.mem_append_left _ (List.mem_of_getElem? (i := 209) rfl))))), rfl⟩
theorem tw_515 : Cond.methodLink RX5 145 yX5_counted ∈ gT := List.mem_filter.mpr ⟨List.mem_append_right _ (List.mem_append_right _ (List.mem_append_right _ (List.mem_append_right _ (List.mem_append_left _ (List.mem_of_getElem? (i := 210) rfl))))), rfl⟩
theorem tw_516 : Cond.instanceMethod yX5_counted ∈ gT := List.mem_filter.mpr ⟨List.mem_append_right _ (List.mem_append_right _ (List.mem_append_right _ (List.mem_append_right _ (List.mem_append_left _ (List.mem_of_getElem? (i := 212) rfl))))), rfl⟩
theorem tw_517 : Cond.selects RX5 yX5_counted yX5_counted ∈ gT := List.mem_filter.mpr ⟨List.mem_append_left _ (List.mem_of_getElem? (i := 40) rfl), rfl⟩
theorem tw_518 : Cond.code yX5_setting cX5_setting 2 (some .int) ∈ gT := List.mem_filter.mpr ⟨List.mem_append_right _ (List.mem_append_right _ (List.mem_append_right _ (List.mem_append_right _ (List.mem_append_left _ (List.mem_of_getElem? (i := 221) rfl))))), rfl⟩
theorem tw_519 : Cond.code yX5_arePair cX5_arePair 4 (some .boolean) ∈ gT := List.mem_filter.mpr ⟨List.mem_append_right _ (List.mem_append_right _ (List.mem_append_right _ (List.mem_append_right _ (List.mem_append_left _ (List.mem_of_getElem? (i := 229) rfl))))), rfl⟩
theorem tw_520 : Cond.code yX5_movedBy cX5_movedBy 5 (some .int) ∈ gT := List.mem_filter.mpr ⟨List.mem_append_right _ (List.mem_append_right _ (List.mem_append_right _ (List.mem_append_right _ (List.mem_append_left _ (List.mem_of_getElem? (i := 233) rfl))))), rfl⟩
theorem tw_521 : Cond.code yX5_moved cX5_moved 5 (some .int) ∈ gT := List.mem_filter.mpr ⟨List.mem_append_right _ (List.mem_append_right _ (List.mem_append_right _ (List.mem_append_right _ (List.mem_append_left _ (List.mem_of_getElem? (i := 225) rfl))))), rfl⟩
theorem tw_522 : Cond.methodLink RX5 148 yX5_arePair ∈ gT := List.mem_filter.mpr ⟨List.mem_append_right _ (List.mem_append_right _ (List.mem_append_right _ (List.mem_append_right _ (List.mem_append_left _ (List.mem_of_getElem? (i := 226) rfl))))), rfl⟩
theorem tw_523 : Cond.instanceMethod yX5_arePair ∈ gT := List.mem_filter.mpr ⟨List.mem_append_right _ (List.mem_append_right _ (List.mem_append_right _ (List.mem_append_right _ (List.mem_append_left _ (List.mem_of_getElem? (i := 228) rfl))))), rfl⟩
theorem tw_524 : Cond.selects RX5 yX5_arePair yX5_arePair ∈ gT := List.mem_filter.mpr ⟨List.mem_append_left _ (List.mem_of_getElem? (i := 42) rfl), rfl⟩
theorem tw_525 : Cond.methodLink RX5 151 yX5_movedBy ∈ gT := List.mem_filter.mpr ⟨List.mem_append_right _ (List.mem_append_right _ (List.mem_append_right _ (List.mem_append_right _ (List.mem_append_left _ (List.mem_of_getElem? (i := 230) rfl))))), rfl⟩
theorem tw_526 : Cond.instanceMethod yX5_movedBy ∈ gT := List.mem_filter.mpr ⟨List.mem_append_right _ (List.mem_append_right _ (List.mem_append_right _ (List.mem_append_right _ (List.mem_append_left _ (List.mem_of_getElem? (i := 232) rfl))))), rfl⟩
theorem tw_527 : Cond.selects RX5 yX5_movedBy yX5_movedBy ∈ gT := List.mem_filter.mpr ⟨List.mem_append_left _ (List.mem_of_getElem? (i := 43) rfl), rfl⟩
theorem tw_528 : Cond.code yX5_sliding cX5_sliding 8 (some .int) ∈ gT := List.mem_filter.mpr ⟨List.mem_append_right _ (List.mem_append_right _ (List.mem_append_right _ (List.mem_append_right _ (List.mem_append_right _ (List.mem_of_getElem? (i := 1) rfl))))), rfl⟩
theorem tw_529 : Cond.code yX5_slidesAt cX5_slidesAt 4 (some .int) ∈ gT := List.mem_filter.mpr ⟨List.mem_append_right _ (List.mem_append_right _ (List.mem_append_right _ (List.mem_append_right _ (List.mem_append_left _ (List.mem_of_getElem? (i := 237) rfl))))), rfl⟩
theorem tw_530 : Cond.methodLink RX5 154 yX5_sliding ∈ gT := List.mem_filter.mpr ⟨List.mem_append_right _ (List.mem_append_right _ (List.mem_append_right _ (List.mem_append_right _ (List.mem_append_left _ (List.mem_of_getElem? (i := 238) rfl))))), rfl⟩
theorem tw_531 : Cond.instanceMethod yX5_sliding ∈ gT := List.mem_filter.mpr ⟨List.mem_append_right _ (List.mem_append_right _ (List.mem_append_right _ (List.mem_append_right _ (List.mem_append_right _ (List.mem_of_getElem? (i := 0) rfl))))), rfl⟩
theorem tw_532 : Cond.selects RX5 yX5_sliding yX5_sliding ∈ gT := List.mem_filter.mpr ⟨List.mem_append_left _ (List.mem_of_getElem? (i := 44) rfl), rfl⟩
theorem tw_533 : Cond.code yX5_firstFar cX5_firstFar 7 (some .int) ∈ gT := List.mem_filter.mpr ⟨List.mem_append_right _ (List.mem_append_right _ (List.mem_append_right _ (List.mem_append_right _ (List.mem_append_right _ (List.mem_of_getElem? (i := 9) rfl))))), rfl⟩
theorem tw_534 : Cond.code yX5_firstMoved cX5_firstMoved 5 (some .int) ∈ gT := List.mem_filter.mpr ⟨List.mem_append_right _ (List.mem_append_right _ (List.mem_append_right _ (List.mem_append_right _ (List.mem_append_right _ (List.mem_of_getElem? (i := 5) rfl))))), rfl⟩
theorem tw_535 : Cond.methodLink RX5 157 yX5_firstFar ∈ gT := List.mem_filter.mpr ⟨List.mem_append_right _ (List.mem_append_right _ (List.mem_append_right _ (List.mem_append_right _ (List.mem_append_right _ (List.mem_of_getElem? (i := 6) rfl))))), rfl⟩
theorem tw_536 : Cond.instanceMethod yX5_firstFar ∈ gT := List.mem_filter.mpr ⟨List.mem_append_right _ (List.mem_append_right _ (List.mem_append_right _ (List.mem_append_right _ (List.mem_append_right _ (List.mem_of_getElem? (i := 8) rfl))))), rfl⟩
theorem tw_537 : Cond.selects RX5 yX5_firstFar yX5_firstFar ∈ gT := List.mem_filter.mpr ⟨List.mem_append_left _ (List.mem_of_getElem? (i := 45) rfl), rfl⟩
theorem tw_538 : Cond.code yX5_rate cX5_rate 5 (some .double) ∈ gT := List.mem_filter.mpr ⟨List.mem_append_right _ (List.mem_append_right _ (List.mem_append_right _ (List.mem_append_right _ (List.mem_append_right _ (List.mem_of_getElem? (i := 17) rfl))))), rfl⟩
theorem tw_539 : Cond.code yX5_speed cX5_speed 4 (some .double) ∈ gT := List.mem_filter.mpr ⟨List.mem_append_right _ (List.mem_append_right _ (List.mem_append_right _ (List.mem_append_right _ (List.mem_append_right _ (List.mem_of_getElem? (i := 13) rfl))))), rfl⟩
theorem tw_540 : Cond.methodLink RX5 160 yX5_rate ∈ gT := List.mem_filter.mpr ⟨List.mem_append_right _ (List.mem_append_right _ (List.mem_append_right _ (List.mem_append_right _ (List.mem_append_right _ (List.mem_of_getElem? (i := 14) rfl))))), rfl⟩
theorem tw_541 : Cond.instanceMethod yX5_rate ∈ gT := List.mem_filter.mpr ⟨List.mem_append_right _ (List.mem_append_right _ (List.mem_append_right _ (List.mem_append_right _ (List.mem_append_right _ (List.mem_of_getElem? (i := 16) rfl))))), rfl⟩
theorem tw_542 : Cond.selects RX5 yX5_rate yX5_rate ∈ gT := List.mem_filter.mpr ⟨List.mem_append_left _ (List.mem_of_getElem? (i := 46) rfl), rfl⟩
theorem tw_543 : Cond.code yX5_checks cX5_checks 7 (some .int) ∈ gT := List.mem_filter.mpr ⟨List.mem_append_right _ (List.mem_append_right _ (List.mem_append_right _ (List.mem_append_right _ (List.mem_append_right _ (List.mem_of_getElem? (i := 29) rfl))))), rfl⟩
theorem tw_544 : Cond.code yX5_mean cX5_mean 3 (some .float) ∈ gT := List.mem_filter.mpr ⟨List.mem_append_right _ (List.mem_append_right _ (List.mem_append_right _ (List.mem_append_right _ (List.mem_append_right _ (List.mem_of_getElem? (i := 25) rfl))))), rfl⟩
theorem tw_545 : Cond.constantFloat RX5 168 (1098907648) ∈ gT := List.mem_filter.mpr ⟨List.mem_append_right _ (List.mem_append_right _ (List.mem_append_right _ (List.mem_append_right _ (List.mem_append_right _ (List.mem_of_getElem? (i := 30) rfl))))), rfl⟩
theorem tw_546 : Cond.methodLink RX5 164 yX5_checks ∈ gT := List.mem_filter.mpr ⟨List.mem_append_right _ (List.mem_append_right _ (List.mem_append_right _ (List.mem_append_right _ (List.mem_append_right _ (List.mem_of_getElem? (i := 26) rfl))))), rfl⟩
theorem tw_547 : Cond.instanceMethod yX5_checks ∈ gT := List.mem_filter.mpr ⟨List.mem_append_right _ (List.mem_append_right _ (List.mem_append_right _ (List.mem_append_right _ (List.mem_append_right _ (List.mem_of_getElem? (i := 28) rfl))))), rfl⟩
theorem tw_548 : Cond.selects RX5 yX5_checks yX5_checks ∈ gT := List.mem_filter.mpr ⟨List.mem_append_left _ (List.mem_of_getElem? (i := 48) rfl), rfl⟩
theorem tw_549 : Cond.code yX5_meanCheck cX5_meanCheck 3 (some .float) ∈ gT := List.mem_filter.mpr ⟨List.mem_append_right _ (List.mem_append_right _ (List.mem_append_right _ (List.mem_append_right _ (List.mem_append_right _ (List.mem_of_getElem? (i := 21) rfl))))), rfl⟩
theorem tw_550 : Cond.methodLink RX5 169 yX5_mean ∈ gT := List.mem_filter.mpr ⟨List.mem_append_right _ (List.mem_append_right _ (List.mem_append_right _ (List.mem_append_right _ (List.mem_append_right _ (List.mem_of_getElem? (i := 22) rfl))))), rfl⟩
theorem tw_551 : Cond.instanceMethod yX5_mean ∈ gT := List.mem_filter.mpr ⟨List.mem_append_right _ (List.mem_append_right _ (List.mem_append_right _ (List.mem_append_right _ (List.mem_append_right _ (List.mem_of_getElem? (i := 24) rfl))))), rfl⟩
theorem tw_552 : Cond.selects RX5 yX5_mean yX5_mean ∈ gT := List.mem_filter.mpr ⟨List.mem_append_left _ (List.mem_of_getElem? (i := 47) rfl), rfl⟩
theorem tw_553 : Cond.code yX5_spreadOf cX5_spreadOf 7 (some .double) ∈ gT := List.mem_filter.mpr ⟨List.mem_append_right _ (List.mem_append_right _ (List.mem_append_right _ (List.mem_append_right _ (List.mem_append_right _ (List.mem_of_getElem? (i := 38) rfl))))), rfl⟩
theorem tw_554 : Cond.constantLong RX5 173 (16) ∈ gT := List.mem_filter.mpr ⟨List.mem_append_right _ (List.mem_append_right _ (List.mem_append_right _ (List.mem_append_right _ (List.mem_append_right _ (List.mem_of_getElem? (i := 39) rfl))))), rfl⟩
theorem tw_555 : Cond.constantDouble RX5 175 (4643211215818981376) ∈ gT := List.mem_filter.mpr ⟨List.mem_append_right _ (List.mem_append_right _ (List.mem_append_right _ (List.mem_append_right _ (List.mem_append_right _ (List.mem_of_getElem? (i := 40) rfl))))), rfl⟩
theorem tw_556 : Cond.code yX5_spread cX5_spread 3 (some .double) ∈ gT := List.mem_filter.mpr ⟨List.mem_append_right _ (List.mem_append_right _ (List.mem_append_right _ (List.mem_append_right _ (List.mem_append_right _ (List.mem_of_getElem? (i := 34) rfl))))), rfl⟩
theorem tw_557 : Cond.methodLink RX5 177 yX5_spreadOf ∈ gT := List.mem_filter.mpr ⟨List.mem_append_right _ (List.mem_append_right _ (List.mem_append_right _ (List.mem_append_right _ (List.mem_append_right _ (List.mem_of_getElem? (i := 35) rfl))))), rfl⟩
theorem tw_558 : Cond.instanceMethod yX5_spreadOf ∈ gT := List.mem_filter.mpr ⟨List.mem_append_right _ (List.mem_append_right _ (List.mem_append_right _ (List.mem_append_right _ (List.mem_append_right _ (List.mem_of_getElem? (i := 37) rfl))))), rfl⟩
theorem tw_559 : Cond.selects RX5 yX5_spreadOf yX5_spreadOf ∈ gT := List.mem_filter.mpr ⟨List.mem_append_left _ (List.mem_of_getElem? (i := 49) rfl), rfl⟩
theorem tw_560 : Cond.code yX5_mix cX5_mix 3 none ∈ gT := List.mem_filter.mpr ⟨List.mem_append_right _ (List.mem_append_right _ (List.mem_append_right _ (List.mem_append_right _ (List.mem_append_right _ (List.mem_of_getElem? (i := 49) rfl))))), rfl⟩
theorem tw_561 : Cond.constantLong RX5 181 (31) ∈ gT := List.mem_filter.mpr ⟨List.mem_append_right _ (List.mem_append_right _ (List.mem_append_right _ (List.mem_append_right _ (List.mem_append_right _ (List.mem_of_getElem? (i := 50) rfl))))), rfl⟩
theorem tw_562 : Cond.fieldLink RX5 183 "SlotProbeModel" "hash" "J" ∈ gT := List.mem_filter.mpr ⟨List.mem_append_right _ (List.mem_append_right _ (List.mem_append_right _ (List.mem_append_left _ (List.mem_of_getElem? (i := 221) rfl)))), rfl⟩
theorem tw_563 : Cond.code yX5_bits cX5_bits 12 (some .long) ∈ gT := List.mem_filter.mpr ⟨List.mem_append_right _ (List.mem_append_right _ (List.mem_append_right _ (List.mem_append_right _ (List.mem_append_right _ (List.mem_of_getElem? (i := 60) rfl))))), rfl⟩
theorem tw_564 : Cond.constantDouble RX5 187 (4611686018427387904) ∈ gT := List.mem_filter.mpr ⟨List.mem_append_right _ (List.mem_append_right _ (List.mem_append_right _ (List.mem_append_right _ (List.mem_append_right _ (List.mem_of_getElem? (i := 61) rfl))))), rfl⟩
theorem tw_565 : Cond.code yX5_doubleBits cX5_doubleBits 2 (some .long) ∈ gT := List.mem_filter.mpr ⟨List.mem_append_right _ (List.mem_append_right _ (List.mem_append_right _ (List.mem_append_right _ (List.mem_append_right _ (List.mem_of_getElem? (i := 64) rfl))))), rfl⟩
theorem tw_566 : Cond.constantLong RX5 189 (4503599627370496) ∈ gT := List.mem_filter.mpr ⟨List.mem_append_right _ (List.mem_append_right _ (List.mem_append_right _ (List.mem_append_right _ (List.mem_append_right _ (List.mem_of_getElem? (i := 65) rfl))))), rfl⟩
theorem tw_567 : Cond.constantLong RX5 191 (1023) ∈ gT := List.mem_filter.mpr ⟨List.mem_append_right _ (List.mem_append_right _ (List.mem_append_right _ (List.mem_append_right _ (List.mem_append_right _ (List.mem_of_getElem? (i := 66) rfl))))), rfl⟩
theorem tw_568 : Cond.constantLong RX5 193 (-9223372036854775808) ∈ gT := List.mem_filter.mpr ⟨List.mem_append_right _ (List.mem_append_right _ (List.mem_append_right _ (List.mem_append_right _ (List.mem_append_right _ (List.mem_of_getElem? (i := 67) rfl))))), rfl⟩
theorem tw_569 : Cond.methodLink RX5 195 yX5_bits ∈ gT := List.mem_filter.mpr ⟨List.mem_append_right _ (List.mem_append_right _ (List.mem_append_right _ (List.mem_append_right _ (List.mem_append_right _ (List.mem_of_getElem? (i := 58) rfl))))), rfl⟩
theorem tw_570 : Cond.static yX5_bits ∈ gT := List.mem_filter.mpr ⟨List.mem_append_right _ (List.mem_append_right _ (List.mem_append_right _ (List.mem_append_right _ (List.mem_append_right _ (List.mem_of_getElem? (i := 59) rfl))))), rfl⟩
theorem tw_571 : Cond.code yX5_mixSurvey cX5_mixSurvey 6 none ∈ gT := List.mem_filter.mpr ⟨List.mem_append_right _ (List.mem_append_right _ (List.mem_append_right _ (List.mem_append_right _ (List.mem_append_right _ (List.mem_of_getElem? (i := 54) rfl))))), rfl⟩
theorem tw_572 : Cond.constantLong RX5 203 (8388608) ∈ gT := List.mem_filter.mpr ⟨List.mem_append_right _ (List.mem_append_right _ (List.mem_append_right _ (List.mem_append_right _ (List.mem_append_right _ (List.mem_of_getElem? (i := 55) rfl))))), rfl⟩
theorem tw_573 : Cond.constantLong RX5 205 (127) ∈ gT := List.mem_filter.mpr ⟨List.mem_append_right _ (List.mem_append_right _ (List.mem_append_right _ (List.mem_append_right _ (List.mem_append_right _ (List.mem_of_getElem? (i := 56) rfl))))), rfl⟩
theorem tw_574 : Cond.constantLong RX5 207 (-2147483648) ∈ gT := List.mem_filter.mpr ⟨List.mem_append_right _ (List.mem_append_right _ (List.mem_append_right _ (List.mem_append_right _ (List.mem_append_right _ (List.mem_of_getElem? (i := 57) rfl))))), rfl⟩
theorem tw_575 : Cond.methodLink RX5 199 yX5_mix ∈ gT := List.mem_filter.mpr ⟨List.mem_append_right _ (List.mem_append_right _ (List.mem_append_right _ (List.mem_append_right _ (List.mem_append_right _ (List.mem_of_getElem? (i := 46) rfl))))), rfl⟩
theorem tw_576 : Cond.instanceMethod yX5_mix ∈ gT := List.mem_filter.mpr ⟨List.mem_append_right _ (List.mem_append_right _ (List.mem_append_right _ (List.mem_append_right _ (List.mem_append_right _ (List.mem_of_getElem? (i := 48) rfl))))), rfl⟩
theorem tw_577 : Cond.selects RX5 yX5_mix yX5_mix ∈ gT := List.mem_filter.mpr ⟨List.mem_append_left _ (List.mem_of_getElem? (i := 50) rfl), rfl⟩
theorem tw_578 : Cond.methodLink RX5 209 yX5_doubleBits ∈ gT := List.mem_filter.mpr ⟨List.mem_append_right _ (List.mem_append_right _ (List.mem_append_right _ (List.mem_append_right _ (List.mem_append_right _ (List.mem_of_getElem? (i := 62) rfl))))), rfl⟩
theorem tw_579 : Cond.static yX5_doubleBits ∈ gT := List.mem_filter.mpr ⟨List.mem_append_right _ (List.mem_append_right _ (List.mem_append_right _ (List.mem_append_right _ (List.mem_append_right _ (List.mem_of_getElem? (i := 63) rfl))))), rfl⟩
theorem tw_580 : Cond.code yX5_digest cX5_digest 2 (some .long) ∈ gT := List.mem_filter.mpr ⟨List.mem_append_right _ (List.mem_append_right _ (List.mem_append_right _ (List.mem_append_right _ (List.mem_append_right _ (List.mem_of_getElem? (i := 44) rfl))))), rfl⟩
theorem tw_581 : Cond.constantLong RX5 213 (3533) ∈ gT := List.mem_filter.mpr ⟨List.mem_append_right _ (List.mem_append_right _ (List.mem_append_right _ (List.mem_append_right _ (List.mem_append_right _ (List.mem_of_getElem? (i := 45) rfl))))), rfl⟩
theorem tw_582 : Cond.methodLink RX5 215 yX5_mixSurvey ∈ gT := List.mem_filter.mpr ⟨List.mem_append_right _ (List.mem_append_right _ (List.mem_append_right _ (List.mem_append_right _ (List.mem_append_right _ (List.mem_of_getElem? (i := 51) rfl))))), rfl⟩
theorem tw_583 : Cond.instanceMethod yX5_mixSurvey ∈ gT := List.mem_filter.mpr ⟨List.mem_append_right _ (List.mem_append_right _ (List.mem_append_right _ (List.mem_append_right _ (List.mem_append_right _ (List.mem_of_getElem? (i := 53) rfl))))), rfl⟩
theorem tw_584 : Cond.selects RX5 yX5_mixSurvey yX5_mixSurvey ∈ gT := List.mem_filter.mpr ⟨List.mem_append_left _ (List.mem_of_getElem? (i := 51) rfl), rfl⟩
theorem tw_585 : Cond.codeWith yL_bend cL_bend 6 (some .int) [(0, 12, 15, 13), (0, 12, 19, 15)] ∈ gT := List.mem_filter.mpr ⟨List.mem_append_right _ (List.mem_append_right _ (List.mem_append_left _ (List.mem_of_getElem? (i := 227) rfl))), rfl⟩
theorem tw_586 : Cond.classLink RL 13 "java/lang/IndexOutOfBoundsException" ∈ gT := List.mem_filter.mpr ⟨List.mem_append_right _ (List.mem_append_right _ (List.mem_append_left _ (List.mem_of_getElem? (i := 228) rfl))), rfl⟩
theorem tw_587 : Cond.classLink RL 15 "java/lang/IllegalArgumentException" ∈ gT := List.mem_filter.mpr ⟨List.mem_append_right _ (List.mem_append_right _ (List.mem_append_left _ (List.mem_of_getElem? (i := 229) rfl))), rfl⟩
theorem tw_588 : Cond.methodLink RL 7 yX4_bend ∈ gT := List.mem_filter.mpr ⟨List.mem_append_right _ (List.mem_append_right _ (List.mem_append_left _ (List.mem_of_getElem? (i := 230) rfl))), rfl⟩
theorem tw_589 : Cond.instanceMethod yX4_bend ∈ gT := List.mem_filter.mpr ⟨List.mem_append_right _ (List.mem_append_right _ (List.mem_append_left _ (List.mem_of_getElem? (i := 231) rfl))), rfl⟩
theorem tw_590 : Cond.selects RX4 yX4_bend yX4_bend ∈ gT := List.mem_filter.mpr ⟨List.mem_append_right _ (List.mem_append_right _ (List.mem_append_left _ (List.mem_of_getElem? (i := 232) rfl))), rfl⟩
theorem tw_591 : Cond.codeWith yL_slide cL_slide 6 (some .int) [(0, 12, 15, 13), (0, 12, 19, 15)] ∈ gT := List.mem_filter.mpr ⟨List.mem_append_right _ (List.mem_append_right _ (List.mem_append_right _ (List.mem_append_left _ (List.mem_of_getElem? (i := 11) rfl)))), rfl⟩
theorem tw_592 : Cond.methodLink RL 17 yX4_slide ∈ gT := List.mem_filter.mpr ⟨List.mem_append_right _ (List.mem_append_right _ (List.mem_append_right _ (List.mem_append_left _ (List.mem_of_getElem? (i := 12) rfl)))), rfl⟩
theorem tw_593 : Cond.instanceMethod yX4_slide ∈ gT := List.mem_filter.mpr ⟨List.mem_append_right _ (List.mem_append_right _ (List.mem_append_right _ (List.mem_append_left _ (List.mem_of_getElem? (i := 13) rfl)))), rfl⟩
theorem tw_594 : Cond.selects RX4 yX4_slide yX4_slide ∈ gT := List.mem_filter.mpr ⟨List.mem_append_right _ (List.mem_append_right _ (List.mem_append_right _ (List.mem_append_left _ (List.mem_of_getElem? (i := 14) rfl)))), rfl⟩
theorem tw_595 : Cond.codeWith yL_turn cL_turn 5 (some .int) [(0, 10, 13, 13), (0, 10, 17, 15)] ∈ gT := List.mem_filter.mpr ⟨List.mem_append_right _ (List.mem_append_right _ (List.mem_append_right _ (List.mem_append_left _ (List.mem_of_getElem? (i := 24) rfl)))), rfl⟩
theorem tw_596 : Cond.methodLink RL 20 yX4_turn ∈ gT := List.mem_filter.mpr ⟨List.mem_append_right _ (List.mem_append_right _ (List.mem_append_right _ (List.mem_append_left _ (List.mem_of_getElem? (i := 25) rfl)))), rfl⟩
theorem tw_597 : Cond.instanceMethod yX4_turn ∈ gT := List.mem_filter.mpr ⟨List.mem_append_right _ (List.mem_append_right _ (List.mem_append_right _ (List.mem_append_left _ (List.mem_of_getElem? (i := 26) rfl)))), rfl⟩
theorem tw_598 : Cond.selects RX4 yX4_turn yX4_turn ∈ gT := List.mem_filter.mpr ⟨List.mem_append_right _ (List.mem_append_right _ (List.mem_append_right _ (List.mem_append_left _ (List.mem_of_getElem? (i := 27) rfl)))), rfl⟩
theorem tw_599 : Cond.codeWith yL_bias cL_bias 5 (some .int) [(0, 10, 13, 13), (0, 10, 17, 15)] ∈ gT := List.mem_filter.mpr ⟨List.mem_append_right _ (List.mem_append_right _ (List.mem_append_right _ (List.mem_append_left _ (List.mem_of_getElem? (i := 31) rfl)))), rfl⟩
theorem tw_600 : Cond.methodLink RL 24 yX4_bias ∈ gT := List.mem_filter.mpr ⟨List.mem_append_right _ (List.mem_append_right _ (List.mem_append_right _ (List.mem_append_left _ (List.mem_of_getElem? (i := 32) rfl)))), rfl⟩
theorem tw_601 : Cond.instanceMethod yX4_bias ∈ gT := List.mem_filter.mpr ⟨List.mem_append_right _ (List.mem_append_right _ (List.mem_append_right _ (List.mem_append_left _ (List.mem_of_getElem? (i := 33) rfl)))), rfl⟩
theorem tw_602 : Cond.selects RX4 yX4_bias yX4_bias ∈ gT := List.mem_filter.mpr ⟨List.mem_append_right _ (List.mem_append_right _ (List.mem_append_right _ (List.mem_append_left _ (List.mem_of_getElem? (i := 34) rfl)))), rfl⟩
theorem tw_603 : Cond.codeWith yL_set cL_set 5 (some .int) [(0, 10, 13, 13), (0, 10, 17, 15)] ∈ gT := List.mem_filter.mpr ⟨List.mem_append_right _ (List.mem_append_right _ (List.mem_append_right _ (List.mem_append_left _ (List.mem_of_getElem? (i := 38) rfl)))), rfl⟩
theorem tw_604 : Cond.methodLink RL 27 yX4_set ∈ gT := List.mem_filter.mpr ⟨List.mem_append_right _ (List.mem_append_right _ (List.mem_append_right _ (List.mem_append_left _ (List.mem_of_getElem? (i := 39) rfl)))), rfl⟩
theorem tw_605 : Cond.instanceMethod yX4_set ∈ gT := List.mem_filter.mpr ⟨List.mem_append_right _ (List.mem_append_right _ (List.mem_append_right _ (List.mem_append_left _ (List.mem_of_getElem? (i := 40) rfl)))), rfl⟩
theorem tw_606 : Cond.selects RX4 yX4_set yX4_set ∈ gT := List.mem_filter.mpr ⟨List.mem_append_right _ (List.mem_append_right _ (List.mem_append_right _ (List.mem_append_left _ (List.mem_of_getElem? (i := 41) rfl)))), rfl⟩
theorem tw_607 : Cond.codeWith yL_pass cL_pass 4 (some .int) [(0, 9, 12, 15), (0, 9, 15, 34)] ∈ gT := List.mem_filter.mpr ⟨List.mem_append_right _ (List.mem_append_right _ (List.mem_append_right _ (List.mem_append_left _ (List.mem_of_getElem? (i := 45) rfl)))), rfl⟩
theorem tw_608 : Cond.classLink RL 34 "java/lang/IllegalStateException" ∈ gT := List.mem_filter.mpr ⟨List.mem_append_right _ (List.mem_append_right _ (List.mem_append_right _ (List.mem_append_left _ (List.mem_of_getElem? (i := 46) rfl)))), rfl⟩
theorem tw_609 : Cond.methodLink RL 30 yX4_pass ∈ gT := List.mem_filter.mpr ⟨List.mem_append_right _ (List.mem_append_right _ (List.mem_append_right _ (List.mem_append_left _ (List.mem_of_getElem? (i := 47) rfl)))), rfl⟩
theorem tw_610 : Cond.instanceMethod yX4_pass ∈ gT := List.mem_filter.mpr ⟨List.mem_append_right _ (List.mem_append_right _ (List.mem_append_right _ (List.mem_append_left _ (List.mem_of_getElem? (i := 48) rfl)))), rfl⟩
theorem tw_611 : Cond.selects RX4 yX4_pass yX4_pass ∈ gT := List.mem_filter.mpr ⟨List.mem_append_right _ (List.mem_append_right _ (List.mem_append_right _ (List.mem_append_left _ (List.mem_of_getElem? (i := 49) rfl)))), rfl⟩
theorem tw_612 : Cond.codeWith yL_survey cL_survey 3 (some .int) [(0, 8, 11, 34)] ∈ gT := List.mem_filter.mpr ⟨List.mem_append_right _ (List.mem_append_right _ (List.mem_append_right _ (List.mem_append_left _ (List.mem_of_getElem? (i := 72) rfl)))), rfl⟩
theorem tw_613 : Cond.methodLink RL 36 yX4_survey ∈ gT := List.mem_filter.mpr ⟨List.mem_append_right _ (List.mem_append_right _ (List.mem_append_right _ (List.mem_append_left _ (List.mem_of_getElem? (i := 73) rfl)))), rfl⟩
theorem tw_614 : Cond.instanceMethod yX4_survey ∈ gT := List.mem_filter.mpr ⟨List.mem_append_right _ (List.mem_append_right _ (List.mem_append_right _ (List.mem_append_left _ (List.mem_of_getElem? (i := 74) rfl)))), rfl⟩
theorem tw_615 : Cond.selects RX4 yX4_survey yX4_survey ∈ gT := List.mem_filter.mpr ⟨List.mem_append_right _ (List.mem_append_right _ (List.mem_append_right _ (List.mem_append_left _ (List.mem_of_getElem? (i := 75) rfl)))), rfl⟩
theorem tw_616 : Cond.codeWith yL_drop cL_drop 3 (some .int) [(0, 8, 11, 34)] ∈ gT := List.mem_filter.mpr ⟨List.mem_append_right _ (List.mem_append_right _ (List.mem_append_right _ (List.mem_append_left _ (List.mem_of_getElem? (i := 79) rfl)))), rfl⟩
theorem tw_617 : Cond.methodLink RL 40 yX4_drop ∈ gT := List.mem_filter.mpr ⟨List.mem_append_right _ (List.mem_append_right _ (List.mem_append_right _ (List.mem_append_left _ (List.mem_of_getElem? (i := 80) rfl)))), rfl⟩
theorem tw_618 : Cond.instanceMethod yX4_drop ∈ gT := List.mem_filter.mpr ⟨List.mem_append_right _ (List.mem_append_right _ (List.mem_append_right _ (List.mem_append_left _ (List.mem_of_getElem? (i := 81) rfl)))), rfl⟩
theorem tw_619 : Cond.selects RX4 yX4_drop yX4_drop ∈ gT := List.mem_filter.mpr ⟨List.mem_append_right _ (List.mem_append_right _ (List.mem_append_right _ (List.mem_append_left _ (List.mem_of_getElem? (i := 82) rfl)))), rfl⟩
theorem tw_620 : Cond.codeWith yL_spoil cL_spoil 7 (some .int) [(0, 14, 17, 13), (0, 14, 21, 15), (0, 14, 25, 34)] ∈ gT := List.mem_filter.mpr ⟨List.mem_append_right _ (List.mem_append_right _ (List.mem_append_right _ (List.mem_append_left _ (List.mem_of_getElem? (i := 86) rfl)))), rfl⟩
theorem tw_621 : Cond.methodLink RL 43 yX4_spoil ∈ gT := List.mem_filter.mpr ⟨List.mem_append_right _ (List.mem_append_right _ (List.mem_append_right _ (List.mem_append_left _ (List.mem_of_getElem? (i := 87) rfl)))), rfl⟩
theorem tw_622 : Cond.instanceMethod yX4_spoil ∈ gT := List.mem_filter.mpr ⟨List.mem_append_right _ (List.mem_append_right _ (List.mem_append_right _ (List.mem_append_left _ (List.mem_of_getElem? (i := 88) rfl)))), rfl⟩
theorem tw_623 : Cond.selects RX4 yX4_spoil yX4_spoil ∈ gT := List.mem_filter.mpr ⟨List.mem_append_right _ (List.mem_append_right _ (List.mem_append_right _ (List.mem_append_left _ (List.mem_of_getElem? (i := 89) rfl)))), rfl⟩
theorem tw_624 : Cond.codeWith yL_append cL_append 4 (some .int) [(0, 9, 12, 15), (0, 9, 15, 34)] ∈ gT := List.mem_filter.mpr ⟨List.mem_append_right _ (List.mem_append_right _ (List.mem_append_right _ (List.mem_append_left _ (List.mem_of_getElem? (i := 93) rfl)))), rfl⟩
theorem tw_625 : Cond.methodLink RL 47 yX4_append ∈ gT := List.mem_filter.mpr ⟨List.mem_append_right _ (List.mem_append_right _ (List.mem_append_right _ (List.mem_append_left _ (List.mem_of_getElem? (i := 94) rfl)))), rfl⟩
theorem tw_626 : Cond.instanceMethod yX4_append ∈ gT := List.mem_filter.mpr ⟨List.mem_append_right _ (List.mem_append_right _ (List.mem_append_right _ (List.mem_append_left _ (List.mem_of_getElem? (i := 95) rfl)))), rfl⟩
theorem tw_627 : Cond.selects RX4 yX4_append yX4_append ∈ gT := List.mem_filter.mpr ⟨List.mem_append_right _ (List.mem_append_right _ (List.mem_append_right _ (List.mem_append_left _ (List.mem_of_getElem? (i := 96) rfl)))), rfl⟩
theorem tw_628 : Cond.codeWith yL_load cL_load 3 (some .int) [(0, 8, 11, 34), (0, 8, 14, 15)] ∈ gT := List.mem_filter.mpr ⟨List.mem_append_right _ (List.mem_append_right _ (List.mem_append_right _ (List.mem_append_left _ (List.mem_of_getElem? (i := 100) rfl)))), rfl⟩
theorem tw_629 : Cond.methodLink RL 50 yX4_load ∈ gT := List.mem_filter.mpr ⟨List.mem_append_right _ (List.mem_append_right _ (List.mem_append_right _ (List.mem_append_left _ (List.mem_of_getElem? (i := 101) rfl)))), rfl⟩
theorem tw_630 : Cond.instanceMethod yX4_load ∈ gT := List.mem_filter.mpr ⟨List.mem_append_right _ (List.mem_append_right _ (List.mem_append_right _ (List.mem_append_left _ (List.mem_of_getElem? (i := 102) rfl)))), rfl⟩
theorem tw_631 : Cond.selects RX4 yX4_load yX4_load ∈ gT := List.mem_filter.mpr ⟨List.mem_append_right _ (List.mem_append_right _ (List.mem_append_right _ (List.mem_append_left _ (List.mem_of_getElem? (i := 103) rfl)))), rfl⟩
theorem tw_632 : Cond.codeWith yL_keep cL_keep 4 (some .int) [(0, 9, 12, 15)] ∈ gT := List.mem_filter.mpr ⟨List.mem_append_right _ (List.mem_append_right _ (List.mem_append_right _ (List.mem_append_left _ (List.mem_of_getElem? (i := 128) rfl)))), rfl⟩
theorem tw_633 : Cond.methodLink RL 53 yX4_keep ∈ gT := List.mem_filter.mpr ⟨List.mem_append_right _ (List.mem_append_right _ (List.mem_append_right _ (List.mem_append_left _ (List.mem_of_getElem? (i := 129) rfl)))), rfl⟩
theorem tw_634 : Cond.instanceMethod yX4_keep ∈ gT := List.mem_filter.mpr ⟨List.mem_append_right _ (List.mem_append_right _ (List.mem_append_right _ (List.mem_append_left _ (List.mem_of_getElem? (i := 130) rfl)))), rfl⟩
theorem tw_635 : Cond.selects RX4 yX4_keep yX4_keep ∈ gT := List.mem_filter.mpr ⟨List.mem_append_right _ (List.mem_append_right _ (List.mem_append_right _ (List.mem_append_left _ (List.mem_of_getElem? (i := 131) rfl)))), rfl⟩
theorem tw_636 : Cond.codeWith yL_goBack cL_goBack 4 (some .int) [(0, 9, 12, 15), (0, 9, 15, 34)] ∈ gT := List.mem_filter.mpr ⟨List.mem_append_right _ (List.mem_append_right _ (List.mem_append_right _ (List.mem_append_left _ (List.mem_of_getElem? (i := 136) rfl)))), rfl⟩
theorem tw_637 : Cond.methodLink RL 56 yX4_goBack ∈ gT := List.mem_filter.mpr ⟨List.mem_append_right _ (List.mem_append_right _ (List.mem_append_right _ (List.mem_append_left _ (List.mem_of_getElem? (i := 137) rfl)))), rfl⟩
theorem tw_638 : Cond.instanceMethod yX4_goBack ∈ gT := List.mem_filter.mpr ⟨List.mem_append_right _ (List.mem_append_right _ (List.mem_append_right _ (List.mem_append_left _ (List.mem_of_getElem? (i := 138) rfl)))), rfl⟩
theorem tw_639 : Cond.selects RX4 yX4_goBack yX4_goBack ∈ gT := List.mem_filter.mpr ⟨List.mem_append_right _ (List.mem_append_right _ (List.mem_append_right _ (List.mem_append_left _ (List.mem_of_getElem? (i := 139) rfl)))), rfl⟩
theorem tw_640 : Cond.codeWith yL_undo cL_undo 3 (some .int) [(0, 8, 11, 34)] ∈ gT := List.mem_filter.mpr ⟨List.mem_append_right _ (List.mem_append_right _ (List.mem_append_right _ (List.mem_append_left _ (List.mem_of_getElem? (i := 143) rfl)))), rfl⟩
theorem tw_641 : Cond.methodLink RL 59 yX4_undo ∈ gT := List.mem_filter.mpr ⟨List.mem_append_right _ (List.mem_append_right _ (List.mem_append_right _ (List.mem_append_left _ (List.mem_of_getElem? (i := 144) rfl)))), rfl⟩
theorem tw_642 : Cond.instanceMethod yX4_undo ∈ gT := List.mem_filter.mpr ⟨List.mem_append_right _ (List.mem_append_right _ (List.mem_append_right _ (List.mem_append_left _ (List.mem_of_getElem? (i := 145) rfl)))), rfl⟩
theorem tw_643 : Cond.selects RX4 yX4_undo yX4_undo ∈ gT := List.mem_filter.mpr ⟨List.mem_append_right _ (List.mem_append_right _ (List.mem_append_right _ (List.mem_append_left _ (List.mem_of_getElem? (i := 146) rfl)))), rfl⟩
theorem tw_644 : Cond.codeWith yL_levelOf cL_levelOf 5 (some .int) [(0, 10, 13, 13), (0, 10, 17, 15)] ∈ gT := List.mem_filter.mpr ⟨List.mem_append_right _ (List.mem_append_right _ (List.mem_append_right _ (List.mem_append_left _ (List.mem_of_getElem? (i := 154) rfl)))), rfl⟩
theorem tw_645 : Cond.methodLink RL 62 yX4_levelOf ∈ gT := List.mem_filter.mpr ⟨List.mem_append_right _ (List.mem_append_right _ (List.mem_append_right _ (List.mem_append_left _ (List.mem_of_getElem? (i := 155) rfl)))), rfl⟩
theorem tw_646 : Cond.codeWith yL_reading cL_reading 7 (some .int) [(0, 14, 17, 13), (0, 14, 21, 15)] ∈ gT := List.mem_filter.mpr ⟨List.mem_append_right _ (List.mem_append_right _ (List.mem_append_right _ (List.mem_append_left _ (List.mem_of_getElem? (i := 158) rfl)))), rfl⟩
theorem tw_647 : Cond.methodLink RL 65 yX4_reading ∈ gT := List.mem_filter.mpr ⟨List.mem_append_right _ (List.mem_append_right _ (List.mem_append_right _ (List.mem_append_left _ (List.mem_of_getElem? (i := 159) rfl)))), rfl⟩
theorem tw_648 : Cond.codeWith yL_surveyOf cL_surveyOf 5 (some .int) [(0, 10, 13, 13), (0, 10, 17, 15)] ∈ gT := List.mem_filter.mpr ⟨List.mem_append_right _ (List.mem_append_right _ (List.mem_append_right _ (List.mem_append_left _ (List.mem_of_getElem? (i := 162) rfl)))), rfl⟩
theorem tw_649 : Cond.methodLink RL 68 yX4_surveyOf ∈ gT := List.mem_filter.mpr ⟨List.mem_append_right _ (List.mem_append_right _ (List.mem_append_right _ (List.mem_append_left _ (List.mem_of_getElem? (i := 163) rfl)))), rfl⟩
theorem tw_650 : Cond.codeWith yL_place cL_place 7 (some .int) [(0, 14, 17, 13), (0, 14, 21, 15)] ∈ gT := List.mem_filter.mpr ⟨List.mem_append_right _ (List.mem_append_right _ (List.mem_append_right _ (List.mem_append_left _ (List.mem_of_getElem? (i := 166) rfl)))), rfl⟩
theorem tw_651 : Cond.methodLink RL 71 yX4_place ∈ gT := List.mem_filter.mpr ⟨List.mem_append_right _ (List.mem_append_right _ (List.mem_append_right _ (List.mem_append_left _ (List.mem_of_getElem? (i := 167) rfl)))), rfl⟩
theorem tw_652 : Cond.codeWith yL_count cL_count 4 (some .int) [(0, 9, 12, 15)] ∈ gT := List.mem_filter.mpr ⟨List.mem_append_right _ (List.mem_append_right _ (List.mem_append_right _ (List.mem_append_left _ (List.mem_of_getElem? (i := 170) rfl)))), rfl⟩
theorem tw_653 : Cond.methodLink RL 74 yX4_count ∈ gT := List.mem_filter.mpr ⟨List.mem_append_right _ (List.mem_append_right _ (List.mem_append_right _ (List.mem_append_left _ (List.mem_of_getElem? (i := 171) rfl)))), rfl⟩
theorem tw_654 : Cond.codeWith yL_setting cL_setting 4 (some .int) [(0, 9, 12, 13)] ∈ gT := List.mem_filter.mpr ⟨List.mem_append_right _ (List.mem_append_right _ (List.mem_append_right _ (List.mem_append_left _ (List.mem_of_getElem? (i := 174) rfl)))), rfl⟩
theorem tw_655 : Cond.methodLink RL 77 yX4_setting ∈ gT := List.mem_filter.mpr ⟨List.mem_append_right _ (List.mem_append_right _ (List.mem_append_right _ (List.mem_append_left _ (List.mem_of_getElem? (i := 175) rfl)))), rfl⟩
theorem tw_656 : Cond.instanceMethod yX4_setting ∈ gT := List.mem_filter.mpr ⟨List.mem_append_right _ (List.mem_append_right _ (List.mem_append_right _ (List.mem_append_left _ (List.mem_of_getElem? (i := 176) rfl)))), rfl⟩
theorem tw_657 : Cond.selects RX4 yX4_setting yX4_setting ∈ gT := List.mem_filter.mpr ⟨List.mem_append_right _ (List.mem_append_right _ (List.mem_append_right _ (List.mem_append_left _ (List.mem_of_getElem? (i := 177) rfl)))), rfl⟩
theorem tw_658 : Cond.codeWith yL_moved cL_moved 7 (some .int) [(0, 14, 17, 13)] ∈ gT := List.mem_filter.mpr ⟨List.mem_append_right _ (List.mem_append_right _ (List.mem_append_right _ (List.mem_append_left _ (List.mem_of_getElem? (i := 181) rfl)))), rfl⟩
theorem tw_659 : Cond.methodLink RL 80 yX4_moved ∈ gT := List.mem_filter.mpr ⟨List.mem_append_right _ (List.mem_append_right _ (List.mem_append_right _ (List.mem_append_left _ (List.mem_of_getElem? (i := 182) rfl)))), rfl⟩
theorem tw_660 : Cond.instanceMethod yX4_moved ∈ gT := List.mem_filter.mpr ⟨List.mem_append_right _ (List.mem_append_right _ (List.mem_append_right _ (List.mem_append_left _ (List.mem_of_getElem? (i := 183) rfl)))), rfl⟩
theorem tw_661 : Cond.selects RX4 yX4_moved yX4_moved ∈ gT := List.mem_filter.mpr ⟨List.mem_append_right _ (List.mem_append_right _ (List.mem_append_right _ (List.mem_append_left _ (List.mem_of_getElem? (i := 184) rfl)))), rfl⟩
theorem tw_662 : Cond.codeWith yL_slidesAt cL_slidesAt 6 (some .int) [(0, 12, 15, 13)] ∈ gT := List.mem_filter.mpr ⟨List.mem_append_right _ (List.mem_append_right _ (List.mem_append_right _ (List.mem_append_left _ (List.mem_of_getElem? (i := 188) rfl)))), rfl⟩
theorem tw_663 : Cond.methodLink RL 83 yX4_slidesAt ∈ gT := List.mem_filter.mpr ⟨List.mem_append_right _ (List.mem_append_right _ (List.mem_append_right _ (List.mem_append_left _ (List.mem_of_getElem? (i := 189) rfl)))), rfl⟩
theorem tw_664 : Cond.codeWith yL_firstMoved cL_firstMoved 7 (some .int) [(0, 14, 17, 13), (0, 14, 21, 15)] ∈ gT := List.mem_filter.mpr ⟨List.mem_append_right _ (List.mem_append_right _ (List.mem_append_right _ (List.mem_append_left _ (List.mem_of_getElem? (i := 192) rfl)))), rfl⟩
theorem tw_665 : Cond.methodLink RL 86 yX4_firstMoved ∈ gT := List.mem_filter.mpr ⟨List.mem_append_right _ (List.mem_append_right _ (List.mem_append_right _ (List.mem_append_left _ (List.mem_of_getElem? (i := 193) rfl)))), rfl⟩
theorem tw_666 : Cond.codeWith yL_speed cL_speed 6 (some .int) [(0, 11, 14, 13)] ∈ gT := List.mem_filter.mpr ⟨List.mem_append_right _ (List.mem_append_right _ (List.mem_append_right _ (List.mem_append_left _ (List.mem_of_getElem? (i := 196) rfl)))), rfl⟩
theorem tw_667 : Cond.methodLink RL 89 yX4_speed ∈ gT := List.mem_filter.mpr ⟨List.mem_append_right _ (List.mem_append_right _ (List.mem_append_right _ (List.mem_append_left _ (List.mem_of_getElem? (i := 197) rfl)))), rfl⟩
theorem tw_668 : Cond.codeWith yL_meanCheck cL_meanCheck 5 (some .int) [(0, 10, 13, 13)] ∈ gT := List.mem_filter.mpr ⟨List.mem_append_right _ (List.mem_append_right _ (List.mem_append_right _ (List.mem_append_left _ (List.mem_of_getElem? (i := 200) rfl)))), rfl⟩
theorem tw_669 : Cond.methodLink RL 93 yX4_meanCheck ∈ gT := List.mem_filter.mpr ⟨List.mem_append_right _ (List.mem_append_right _ (List.mem_append_right _ (List.mem_append_left _ (List.mem_of_getElem? (i := 201) rfl)))), rfl⟩
theorem tw_670 : Cond.codeWith yL_spread cL_spread 5 (some .int) [(0, 9, 12, 13)] ∈ gT := List.mem_filter.mpr ⟨List.mem_append_right _ (List.mem_append_right _ (List.mem_append_right _ (List.mem_append_left _ (List.mem_of_getElem? (i := 204) rfl)))), rfl⟩
theorem tw_671 : Cond.methodLink RL 97 yX4_spread ∈ gT := List.mem_filter.mpr ⟨List.mem_append_right _ (List.mem_append_right _ (List.mem_append_right _ (List.mem_append_left _ (List.mem_of_getElem? (i := 205) rfl)))), rfl⟩
theorem tw_672 : Cond.classLink RL 8 RX4 ∈ gT := List.mem_filter.mpr ⟨List.mem_append_right _ (List.mem_append_left _ (List.mem_of_getElem? (i := 15) rfl)), rfl⟩
theorem tw_673 : Cond.instantiable RX4 8 ∈ gT := List.mem_filter.mpr ⟨List.mem_append_right _ (List.mem_append_left _ (List.mem_of_getElem? (i := 16) rfl)), rfl⟩
theorem tw_674 : Cond.classLink RL 102 RX5 ∈ gT := List.mem_filter.mpr ⟨List.mem_append_right _ (List.mem_append_right _ (List.mem_append_right _ (List.mem_append_left _ (List.mem_of_getElem? (i := 206) rfl)))), rfl⟩
theorem tw_675 : Cond.instantiable RX5 10 ∈ gT := List.mem_filter.mpr ⟨List.mem_append_right _ (List.mem_append_right _ (List.mem_append_right _ (List.mem_append_left _ (List.mem_of_getElem? (i := 207) rfl)))), rfl⟩
theorem tw_676 : Cond.arrayClass .long ∈ gT := List.mem_filter.mpr ⟨List.mem_append_right _ (List.mem_append_right _ (List.mem_append_right _ (List.mem_append_right _ (List.mem_append_right _ (List.mem_of_getElem? (i := 68) rfl))))), rfl⟩
theorem tw_677 : Cond.arrayClass .double ∈ gT := List.mem_filter.mpr ⟨List.mem_append_right _ (List.mem_append_right _ (List.mem_append_right _ (List.mem_append_right _ (List.mem_append_right _ (List.mem_of_getElem? (i := 69) rfl))))), rfl⟩
theorem tw_678 : Cond.methodLink RL 101 yX4_init ∈ gT := List.mem_filter.mpr ⟨List.mem_append_right _ (List.mem_append_left _ (List.mem_of_getElem? (i := 17) rfl)), rfl⟩
theorem tw_679 : Cond.instanceMethod yX4_init ∈ gT := List.mem_filter.mpr ⟨List.mem_append_right _ (List.mem_append_left _ (List.mem_of_getElem? (i := 18) rfl)), rfl⟩
theorem tw_680 : Cond.methodLink RL 104 yX5_init ∈ gT := List.mem_filter.mpr ⟨List.mem_append_right _ (List.mem_append_right _ (List.mem_append_right _ (List.mem_append_left _ (List.mem_of_getElem? (i := 208) rfl)))), rfl⟩
theorem tw_681 : Cond.instanceMethod yX5_init ∈ gT := List.mem_filter.mpr ⟨List.mem_append_right _ (List.mem_append_right _ (List.mem_append_right _ (List.mem_append_left _ (List.mem_of_getElem? (i := 209) rfl)))), rfl⟩
theorem tw_682 : Cond.methodLink RL 105 yL_bend ∈ gT := List.mem_filter.mpr ⟨List.mem_append_right _ (List.mem_append_right _ (List.mem_append_left _ (List.mem_of_getElem? (i := 225) rfl))), rfl⟩
theorem tw_683 : Cond.static yL_bend ∈ gT := List.mem_filter.mpr ⟨List.mem_append_right _ (List.mem_append_right _ (List.mem_append_left _ (List.mem_of_getElem? (i := 226) rfl))), rfl⟩
theorem tw_684 : Cond.initialized RL ∈ gT := List.mem_filter.mpr ⟨List.mem_append_right _ (List.mem_append_left _ (List.mem_of_getElem? (i := 0) rfl)), rfl⟩
theorem tw_685 : Cond.methodLink RL 110 yX5_bend ∈ gT := List.mem_filter.mpr ⟨List.mem_append_right _ (List.mem_append_right _ (List.mem_append_right _ (List.mem_append_right _ (List.mem_append_left _ (List.mem_of_getElem? (i := 7) rfl))))), rfl⟩
theorem tw_686 : Cond.instanceMethod yX5_bend ∈ gT := List.mem_filter.mpr ⟨List.mem_append_right _ (List.mem_append_right _ (List.mem_append_right _ (List.mem_append_right _ (List.mem_append_left _ (List.mem_of_getElem? (i := 8) rfl))))), rfl⟩
theorem tw_687 : Cond.selects RX5 yX5_bend yX5_bend ∈ gT := List.mem_filter.mpr ⟨List.mem_append_right _ (List.mem_append_right _ (List.mem_append_right _ (List.mem_append_right _ (List.mem_append_left _ (List.mem_of_getElem? (i := 9) rfl))))), rfl⟩
theorem tw_688 : Cond.methodLink RL 111 yX5_thrown ∈ gT := List.mem_filter.mpr ⟨List.mem_append_right _ (List.mem_append_right _ (List.mem_append_right _ (List.mem_append_right _ (List.mem_append_left _ (List.mem_of_getElem? (i := 3) rfl))))), rfl⟩
theorem tw_689 : Cond.instanceMethod yX5_thrown ∈ gT := List.mem_filter.mpr ⟨List.mem_append_right _ (List.mem_append_right _ (List.mem_append_right _ (List.mem_append_right _ (List.mem_append_left _ (List.mem_of_getElem? (i := 4) rfl))))), rfl⟩
theorem tw_690 : Cond.selects RX5 yX5_thrown yX5_thrown ∈ gT := List.mem_filter.mpr ⟨List.mem_append_right _ (List.mem_append_right _ (List.mem_append_right _ (List.mem_append_right _ (List.mem_append_left _ (List.mem_of_getElem? (i := 5) rfl))))), rfl⟩
theorem tw_691 : Cond.methodLink RL 114 yL_slide ∈ gT := List.mem_filter.mpr ⟨List.mem_append_right _ (List.mem_append_right _ (List.mem_append_right _ (List.mem_append_left _ (List.mem_of_getElem? (i := 9) rfl)))), rfl⟩
theorem tw_692 : Cond.static yL_slide ∈ gT := List.mem_filter.mpr ⟨List.mem_append_right _ (List.mem_append_right _ (List.mem_append_right _ (List.mem_append_left _ (List.mem_of_getElem? (i := 10) rfl)))), rfl⟩
theorem tw_693 : Cond.methodLink RL 116 yX5_slide ∈ gT := List.mem_filter.mpr ⟨List.mem_append_right _ (List.mem_append_right _ (List.mem_append_right _ (List.mem_append_right _ (List.mem_append_left _ (List.mem_of_getElem? (i := 36) rfl))))), rfl⟩
theorem tw_694 : Cond.instanceMethod yX5_slide ∈ gT := List.mem_filter.mpr ⟨List.mem_append_right _ (List.mem_append_right _ (List.mem_append_right _ (List.mem_append_right _ (List.mem_append_left _ (List.mem_of_getElem? (i := 37) rfl))))), rfl⟩
theorem tw_695 : Cond.selects RX5 yX5_slide yX5_slide ∈ gT := List.mem_filter.mpr ⟨List.mem_append_right _ (List.mem_append_right _ (List.mem_append_right _ (List.mem_append_right _ (List.mem_append_left _ (List.mem_of_getElem? (i := 38) rfl))))), rfl⟩
theorem tw_696 : Cond.methodLink RL 117 yL_turn ∈ gT := List.mem_filter.mpr ⟨List.mem_append_right _ (List.mem_append_right _ (List.mem_append_right _ (List.mem_append_left _ (List.mem_of_getElem? (i := 22) rfl)))), rfl⟩
theorem tw_697 : Cond.static yL_turn ∈ gT := List.mem_filter.mpr ⟨List.mem_append_right _ (List.mem_append_right _ (List.mem_append_right _ (List.mem_append_left _ (List.mem_of_getElem? (i := 23) rfl)))), rfl⟩
theorem tw_698 : Cond.methodLink RL 120 yX5_turn ∈ gT := List.mem_filter.mpr ⟨List.mem_append_right _ (List.mem_append_right _ (List.mem_append_right _ (List.mem_append_right _ (List.mem_append_left _ (List.mem_of_getElem? (i := 44) rfl))))), rfl⟩
theorem tw_699 : Cond.instanceMethod yX5_turn ∈ gT := List.mem_filter.mpr ⟨List.mem_append_right _ (List.mem_append_right _ (List.mem_append_right _ (List.mem_append_right _ (List.mem_append_left _ (List.mem_of_getElem? (i := 45) rfl))))), rfl⟩
theorem tw_700 : Cond.selects RX5 yX5_turn yX5_turn ∈ gT := List.mem_filter.mpr ⟨List.mem_append_right _ (List.mem_append_right _ (List.mem_append_right _ (List.mem_append_right _ (List.mem_append_left _ (List.mem_of_getElem? (i := 46) rfl))))), rfl⟩
theorem tw_701 : Cond.methodLink RL 121 yL_bias ∈ gT := List.mem_filter.mpr ⟨List.mem_append_right _ (List.mem_append_right _ (List.mem_append_right _ (List.mem_append_left _ (List.mem_of_getElem? (i := 29) rfl)))), rfl⟩
theorem tw_702 : Cond.static yL_bias ∈ gT := List.mem_filter.mpr ⟨List.mem_append_right _ (List.mem_append_right _ (List.mem_append_right _ (List.mem_append_left _ (List.mem_of_getElem? (i := 30) rfl)))), rfl⟩
theorem tw_703 : Cond.methodLink RL 123 yX5_bias ∈ gT := List.mem_filter.mpr ⟨List.mem_append_right _ (List.mem_append_right _ (List.mem_append_right _ (List.mem_append_right _ (List.mem_append_left _ (List.mem_of_getElem? (i := 48) rfl))))), rfl⟩
theorem tw_704 : Cond.instanceMethod yX5_bias ∈ gT := List.mem_filter.mpr ⟨List.mem_append_right _ (List.mem_append_right _ (List.mem_append_right _ (List.mem_append_right _ (List.mem_append_left _ (List.mem_of_getElem? (i := 49) rfl))))), rfl⟩
theorem tw_705 : Cond.selects RX5 yX5_bias yX5_bias ∈ gT := List.mem_filter.mpr ⟨List.mem_append_right _ (List.mem_append_right _ (List.mem_append_right _ (List.mem_append_right _ (List.mem_append_left _ (List.mem_of_getElem? (i := 50) rfl))))), rfl⟩
theorem tw_706 : Cond.methodLink RL 124 yL_set ∈ gT := List.mem_filter.mpr ⟨List.mem_append_right _ (List.mem_append_right _ (List.mem_append_right _ (List.mem_append_left _ (List.mem_of_getElem? (i := 36) rfl)))), rfl⟩
theorem tw_707 : Cond.static yL_set ∈ gT := List.mem_filter.mpr ⟨List.mem_append_right _ (List.mem_append_right _ (List.mem_append_right _ (List.mem_append_left _ (List.mem_of_getElem? (i := 37) rfl)))), rfl⟩
theorem tw_708 : Cond.methodLink RL 126 yX5_set ∈ gT := List.mem_filter.mpr ⟨List.mem_append_right _ (List.mem_append_right _ (List.mem_append_right _ (List.mem_append_right _ (List.mem_append_left _ (List.mem_of_getElem? (i := 52) rfl))))), rfl⟩
theorem tw_709 : Cond.instanceMethod yX5_set ∈ gT := List.mem_filter.mpr ⟨List.mem_append_right _ (List.mem_append_right _ (List.mem_append_right _ (List.mem_append_right _ (List.mem_append_left _ (List.mem_of_getElem? (i := 53) rfl))))), rfl⟩
theorem tw_710 : Cond.selects RX5 yX5_set yX5_set ∈ gT := List.mem_filter.mpr ⟨List.mem_append_right _ (List.mem_append_right _ (List.mem_append_right _ (List.mem_append_right _ (List.mem_append_left _ (List.mem_of_getElem? (i := 54) rfl))))), rfl⟩
theorem tw_711 : Cond.methodLink RL 127 yL_pass ∈ gT := List.mem_filter.mpr ⟨List.mem_append_right _ (List.mem_append_right _ (List.mem_append_right _ (List.mem_append_left _ (List.mem_of_getElem? (i := 43) rfl)))), rfl⟩
theorem tw_712 : Cond.static yL_pass ∈ gT := List.mem_filter.mpr ⟨List.mem_append_right _ (List.mem_append_right _ (List.mem_append_right _ (List.mem_append_left _ (List.mem_of_getElem? (i := 44) rfl)))), rfl⟩
theorem tw_713 : Cond.methodLink RL 130 yX5_pass ∈ gT := List.mem_filter.mpr ⟨List.mem_append_right _ (List.mem_append_right _ (List.mem_append_right _ (List.mem_append_right _ (List.mem_append_left _ (List.mem_of_getElem? (i := 56) rfl))))), rfl⟩
theorem tw_714 : Cond.instanceMethod yX5_pass ∈ gT := List.mem_filter.mpr ⟨List.mem_append_right _ (List.mem_append_right _ (List.mem_append_right _ (List.mem_append_right _ (List.mem_append_left _ (List.mem_of_getElem? (i := 57) rfl))))), rfl⟩
theorem tw_715 : Cond.selects RX5 yX5_pass yX5_pass ∈ gT := List.mem_filter.mpr ⟨List.mem_append_right _ (List.mem_append_right _ (List.mem_append_right _ (List.mem_append_right _ (List.mem_append_left _ (List.mem_of_getElem? (i := 58) rfl))))), rfl⟩
theorem tw_716 : Cond.methodLink RL 131 yL_survey ∈ gT := List.mem_filter.mpr ⟨List.mem_append_right _ (List.mem_append_right _ (List.mem_append_right _ (List.mem_append_left _ (List.mem_of_getElem? (i := 70) rfl)))), rfl⟩
theorem tw_717 : Cond.static yL_survey ∈ gT := List.mem_filter.mpr ⟨List.mem_append_right _ (List.mem_append_right _ (List.mem_append_right _ (List.mem_append_left _ (List.mem_of_getElem? (i := 71) rfl)))), rfl⟩
theorem tw_718 : Cond.methodLink RL 134 yX5_survey ∈ gT := List.mem_filter.mpr ⟨List.mem_append_right _ (List.mem_append_right _ (List.mem_append_right _ (List.mem_append_right _ (List.mem_append_left _ (List.mem_of_getElem? (i := 60) rfl))))), rfl⟩
theorem tw_719 : Cond.instanceMethod yX5_survey ∈ gT := List.mem_filter.mpr ⟨List.mem_append_right _ (List.mem_append_right _ (List.mem_append_right _ (List.mem_append_right _ (List.mem_append_left _ (List.mem_of_getElem? (i := 61) rfl))))), rfl⟩
theorem tw_720 : Cond.selects RX5 yX5_survey yX5_survey ∈ gT := List.mem_filter.mpr ⟨List.mem_append_right _ (List.mem_append_right _ (List.mem_append_right _ (List.mem_append_right _ (List.mem_append_left _ (List.mem_of_getElem? (i := 62) rfl))))), rfl⟩
theorem tw_721 : Cond.methodLink RL 135 yL_drop ∈ gT := List.mem_filter.mpr ⟨List.mem_append_right _ (List.mem_append_right _ (List.mem_append_right _ (List.mem_append_left _ (List.mem_of_getElem? (i := 77) rfl)))), rfl⟩
theorem tw_722 : Cond.static yL_drop ∈ gT := List.mem_filter.mpr ⟨List.mem_append_right _ (List.mem_append_right _ (List.mem_append_right _ (List.mem_append_left _ (List.mem_of_getElem? (i := 78) rfl)))), rfl⟩
theorem tw_723 : Cond.methodLink RL 137 yX5_drop ∈ gT := List.mem_filter.mpr ⟨List.mem_append_right _ (List.mem_append_right _ (List.mem_append_right _ (List.mem_append_right _ (List.mem_append_left _ (List.mem_of_getElem? (i := 76) rfl))))), rfl⟩
theorem tw_724 : Cond.instanceMethod yX5_drop ∈ gT := List.mem_filter.mpr ⟨List.mem_append_right _ (List.mem_append_right _ (List.mem_append_right _ (List.mem_append_right _ (List.mem_append_left _ (List.mem_of_getElem? (i := 77) rfl))))), rfl⟩
theorem tw_725 : Cond.selects RX5 yX5_drop yX5_drop ∈ gT := List.mem_filter.mpr ⟨List.mem_append_right _ (List.mem_append_right _ (List.mem_append_right _ (List.mem_append_right _ (List.mem_append_left _ (List.mem_of_getElem? (i := 78) rfl))))), rfl⟩
theorem tw_726 : Cond.methodLink RL 138 yL_spoil ∈ gT := List.mem_filter.mpr ⟨List.mem_append_right _ (List.mem_append_right _ (List.mem_append_right _ (List.mem_append_left _ (List.mem_of_getElem? (i := 84) rfl)))), rfl⟩
theorem tw_727 : Cond.static yL_spoil ∈ gT := List.mem_filter.mpr ⟨List.mem_append_right _ (List.mem_append_right _ (List.mem_append_right _ (List.mem_append_left _ (List.mem_of_getElem? (i := 85) rfl)))), rfl⟩
theorem tw_728 : Cond.methodLink RL 141 yX5_spoil ∈ gT := List.mem_filter.mpr ⟨List.mem_append_right _ (List.mem_append_right _ (List.mem_append_right _ (List.mem_append_right _ (List.mem_append_left _ (List.mem_of_getElem? (i := 80) rfl))))), rfl⟩
theorem tw_729 : Cond.instanceMethod yX5_spoil ∈ gT := List.mem_filter.mpr ⟨List.mem_append_right _ (List.mem_append_right _ (List.mem_append_right _ (List.mem_append_right _ (List.mem_append_left _ (List.mem_of_getElem? (i := 81) rfl))))), rfl⟩
theorem tw_730 : Cond.selects RX5 yX5_spoil yX5_spoil ∈ gT := List.mem_filter.mpr ⟨List.mem_append_right _ (List.mem_append_right _ (List.mem_append_right _ (List.mem_append_right _ (List.mem_append_left _ (List.mem_of_getElem? (i := 82) rfl))))), rfl⟩
theorem tw_731 : Cond.methodLink RL 142 yL_append ∈ gT := List.mem_filter.mpr ⟨List.mem_append_right _ (List.mem_append_right _ (List.mem_append_right _ (List.mem_append_left _ (List.mem_of_getElem? (i := 91) rfl)))), rfl⟩
theorem tw_732 : Cond.static yL_append ∈ gT := List.mem_filter.mpr ⟨List.mem_append_right _ (List.mem_append_right _ (List.mem_append_right _ (List.mem_append_left _ (List.mem_of_getElem? (i := 92) rfl)))), rfl⟩
theorem tw_733 : Cond.methodLink RL 144 yX5_append ∈ gT := List.mem_filter.mpr ⟨List.mem_append_right _ (List.mem_append_right _ (List.mem_append_right _ (List.mem_append_right _ (List.mem_append_left _ (List.mem_of_getElem? (i := 91) rfl))))), rfl⟩
theorem tw_734 : Cond.instanceMethod yX5_append ∈ gT := List.mem_filter.mpr ⟨List.mem_append_right _ (List.mem_append_right _ (List.mem_append_right _ (List.mem_append_right _ (List.mem_append_left _ (List.mem_of_getElem? (i := 92) rfl))))), rfl⟩
theorem tw_735 : Cond.selects RX5 yX5_append yX5_append ∈ gT := List.mem_filter.mpr ⟨List.mem_append_right _ (List.mem_append_right _ (List.mem_append_right _ (List.mem_append_right _ (List.mem_append_left _ (List.mem_of_getElem? (i := 93) rfl))))), rfl⟩
theorem tw_736 : Cond.methodLink RL 145 yX4_clearBuffer ∈ gT := List.mem_filter.mpr ⟨List.mem_append_right _ (List.mem_append_left _ (List.mem_of_getElem? (i := 180) rfl)), rfl⟩
theorem tw_737 : Cond.instanceMethod yX4_clearBuffer ∈ gT := List.mem_filter.mpr ⟨List.mem_append_right _ (List.mem_append_left _ (List.mem_of_getElem? (i := 181) rfl)), rfl⟩
theorem tw_738 : Cond.selects RX4 yX4_clearBuffer yX4_clearBuffer ∈ gT := List.mem_filter.mpr ⟨List.mem_append_right _ (List.mem_append_left _ (List.mem_of_getElem? (i := 182) rfl)), rfl⟩
theorem tw_739 : Cond.methodLink RL 148 yX5_clearBuffer ∈ gT := List.mem_filter.mpr ⟨List.mem_append_right _ (List.mem_append_right _ (List.mem_append_right _ (List.mem_append_right _ (List.mem_append_left _ (List.mem_of_getElem? (i := 95) rfl))))), rfl⟩
theorem tw_740 : Cond.instanceMethod yX5_clearBuffer ∈ gT := List.mem_filter.mpr ⟨List.mem_append_right _ (List.mem_append_right _ (List.mem_append_right _ (List.mem_append_right _ (List.mem_append_left _ (List.mem_of_getElem? (i := 96) rfl))))), rfl⟩
theorem tw_741 : Cond.selects RX5 yX5_clearBuffer yX5_clearBuffer ∈ gT := List.mem_filter.mpr ⟨List.mem_append_right _ (List.mem_append_right _ (List.mem_append_right _ (List.mem_append_right _ (List.mem_append_left _ (List.mem_of_getElem? (i := 97) rfl))))), rfl⟩
theorem tw_742 : Cond.methodLink RL 149 yX4_firstError ∈ gT := List.mem_filter.mpr ⟨List.mem_append_right _ (List.mem_append_left _ (List.mem_of_getElem? (i := 184) rfl)), rfl⟩
theorem tw_743 : Cond.methodLink RL 152 yX5_firstError ∈ gT := List.mem_filter.mpr ⟨List.mem_append_right _ (List.mem_append_right _ (List.mem_append_right _ (List.mem_append_right _ (List.mem_append_left _ (List.mem_of_getElem? (i := 99) rfl))))), rfl⟩
theorem tw_744 : Cond.instanceMethod yX5_firstError ∈ gT := List.mem_filter.mpr ⟨List.mem_append_right _ (List.mem_append_right _ (List.mem_append_right _ (List.mem_append_right _ (List.mem_append_left _ (List.mem_of_getElem? (i := 100) rfl))))), rfl⟩
theorem tw_745 : Cond.selects RX5 yX5_firstError yX5_firstError ∈ gT := List.mem_filter.mpr ⟨List.mem_append_right _ (List.mem_append_right _ (List.mem_append_right _ (List.mem_append_right _ (List.mem_append_left _ (List.mem_of_getElem? (i := 101) rfl))))), rfl⟩
theorem tw_746 : Cond.methodLink RL 153 yL_load ∈ gT := List.mem_filter.mpr ⟨List.mem_append_right _ (List.mem_append_right _ (List.mem_append_right _ (List.mem_append_left _ (List.mem_of_getElem? (i := 98) rfl)))), rfl⟩
theorem tw_747 : Cond.static yL_load ∈ gT := List.mem_filter.mpr ⟨List.mem_append_right _ (List.mem_append_right _ (List.mem_append_right _ (List.mem_append_left _ (List.mem_of_getElem? (i := 99) rfl)))), rfl⟩
theorem tw_748 : Cond.methodLink RL 155 yX5_load ∈ gT := List.mem_filter.mpr ⟨List.mem_append_right _ (List.mem_append_right _ (List.mem_append_right _ (List.mem_append_right _ (List.mem_append_left _ (List.mem_of_getElem? (i := 123) rfl))))), rfl⟩
theorem tw_749 : Cond.instanceMethod yX5_load ∈ gT := List.mem_filter.mpr ⟨List.mem_append_right _ (List.mem_append_right _ (List.mem_append_right _ (List.mem_append_right _ (List.mem_append_left _ (List.mem_of_getElem? (i := 124) rfl))))), rfl⟩
theorem tw_750 : Cond.selects RX5 yX5_load yX5_load ∈ gT := List.mem_filter.mpr ⟨List.mem_append_right _ (List.mem_append_right _ (List.mem_append_right _ (List.mem_append_right _ (List.mem_append_left _ (List.mem_of_getElem? (i := 125) rfl))))), rfl⟩
theorem tw_751 : Cond.methodLink RL 156 yL_keep ∈ gT := List.mem_filter.mpr ⟨List.mem_append_right _ (List.mem_append_right _ (List.mem_append_right _ (List.mem_append_left _ (List.mem_of_getElem? (i := 126) rfl)))), rfl⟩
theorem tw_752 : Cond.static yL_keep ∈ gT := List.mem_filter.mpr ⟨List.mem_append_right _ (List.mem_append_right _ (List.mem_append_right _ (List.mem_append_left _ (List.mem_of_getElem? (i := 127) rfl)))), rfl⟩
theorem tw_753 : Cond.methodLink RL 158 yX5_keep ∈ gT := List.mem_filter.mpr ⟨List.mem_append_right _ (List.mem_append_right _ (List.mem_append_right _ (List.mem_append_right _ (List.mem_append_left _ (List.mem_of_getElem? (i := 127) rfl))))), rfl⟩
theorem tw_754 : Cond.instanceMethod yX5_keep ∈ gT := List.mem_filter.mpr ⟨List.mem_append_right _ (List.mem_append_right _ (List.mem_append_right _ (List.mem_append_right _ (List.mem_append_left _ (List.mem_of_getElem? (i := 128) rfl))))), rfl⟩
theorem tw_755 : Cond.selects RX5 yX5_keep yX5_keep ∈ gT := List.mem_filter.mpr ⟨List.mem_append_right _ (List.mem_append_right _ (List.mem_append_right _ (List.mem_append_right _ (List.mem_append_left _ (List.mem_of_getElem? (i := 129) rfl))))), rfl⟩
theorem tw_756 : Cond.methodLink RL 159 yL_goBack ∈ gT := List.mem_filter.mpr ⟨List.mem_append_right _ (List.mem_append_right _ (List.mem_append_right _ (List.mem_append_left _ (List.mem_of_getElem? (i := 134) rfl)))), rfl⟩
theorem tw_757 : Cond.static yL_goBack ∈ gT := List.mem_filter.mpr ⟨List.mem_append_right _ (List.mem_append_right _ (List.mem_append_right _ (List.mem_append_left _ (List.mem_of_getElem? (i := 135) rfl)))), rfl⟩
theorem tw_758 : Cond.methodLink RL 161 yX5_goBack ∈ gT := List.mem_filter.mpr ⟨List.mem_append_right _ (List.mem_append_right _ (List.mem_append_right _ (List.mem_append_right _ (List.mem_append_left _ (List.mem_of_getElem? (i := 131) rfl))))), rfl⟩
theorem tw_759 : Cond.instanceMethod yX5_goBack ∈ gT := List.mem_filter.mpr ⟨List.mem_append_right _ (List.mem_append_right _ (List.mem_append_right _ (List.mem_append_right _ (List.mem_append_left _ (List.mem_of_getElem? (i := 132) rfl))))), rfl⟩
theorem tw_760 : Cond.selects RX5 yX5_goBack yX5_goBack ∈ gT := List.mem_filter.mpr ⟨List.mem_append_right _ (List.mem_append_right _ (List.mem_append_right _ (List.mem_append_right _ (List.mem_append_left _ (List.mem_of_getElem? (i := 133) rfl))))), rfl⟩
theorem tw_761 : Cond.methodLink RL 162 yL_undo ∈ gT := List.mem_filter.mpr ⟨List.mem_append_right _ (List.mem_append_right _ (List.mem_append_right _ (List.mem_append_left _ (List.mem_of_getElem? (i := 141) rfl)))), rfl⟩
theorem tw_762 : Cond.static yL_undo ∈ gT := List.mem_filter.mpr ⟨List.mem_append_right _ (List.mem_append_right _ (List.mem_append_right _ (List.mem_append_left _ (List.mem_of_getElem? (i := 142) rfl)))), rfl⟩
theorem tw_763 : Cond.methodLink RL 164 yX5_undo ∈ gT := List.mem_filter.mpr ⟨List.mem_append_right _ (List.mem_append_right _ (List.mem_append_right _ (List.mem_append_right _ (List.mem_append_left _ (List.mem_of_getElem? (i := 135) rfl))))), rfl⟩
theorem tw_764 : Cond.instanceMethod yX5_undo ∈ gT := List.mem_filter.mpr ⟨List.mem_append_right _ (List.mem_append_right _ (List.mem_append_right _ (List.mem_append_right _ (List.mem_append_left _ (List.mem_of_getElem? (i := 136) rfl))))), rfl⟩
theorem tw_765 : Cond.selects RX5 yX5_undo yX5_undo ∈ gT := List.mem_filter.mpr ⟨List.mem_append_right _ (List.mem_append_right _ (List.mem_append_right _ (List.mem_append_right _ (List.mem_append_left _ (List.mem_of_getElem? (i := 137) rfl))))), rfl⟩
theorem tw_766 : Cond.methodLink RL 165 yL_levelOf ∈ gT := List.mem_filter.mpr ⟨List.mem_append_right _ (List.mem_append_right _ (List.mem_append_right _ (List.mem_append_left _ (List.mem_of_getElem? (i := 152) rfl)))), rfl⟩
theorem tw_767 : Cond.static yL_levelOf ∈ gT := List.mem_filter.mpr ⟨List.mem_append_right _ (List.mem_append_right _ (List.mem_append_right _ (List.mem_append_left _ (List.mem_of_getElem? (i := 153) rfl)))), rfl⟩
theorem tw_768 : Cond.methodLink RL 167 yX5_levelOf ∈ gT := List.mem_filter.mpr ⟨List.mem_append_right _ (List.mem_append_right _ (List.mem_append_right _ (List.mem_append_right _ (List.mem_append_left _ (List.mem_of_getElem? (i := 139) rfl))))), rfl⟩
theorem tw_769 : Cond.instanceMethod yX5_levelOf ∈ gT := List.mem_filter.mpr ⟨List.mem_append_right _ (List.mem_append_right _ (List.mem_append_right _ (List.mem_append_right _ (List.mem_append_left _ (List.mem_of_getElem? (i := 140) rfl))))), rfl⟩
theorem tw_770 : Cond.selects RX5 yX5_levelOf yX5_levelOf ∈ gT := List.mem_filter.mpr ⟨List.mem_append_right _ (List.mem_append_right _ (List.mem_append_right _ (List.mem_append_right _ (List.mem_append_left _ (List.mem_of_getElem? (i := 141) rfl))))), rfl⟩
theorem tw_771 : Cond.methodLink RL 168 yL_reading ∈ gT := List.mem_filter.mpr ⟨List.mem_append_right _ (List.mem_append_right _ (List.mem_append_right _ (List.mem_append_left _ (List.mem_of_getElem? (i := 156) rfl)))), rfl⟩
theorem tw_772 : Cond.static yL_reading ∈ gT := List.mem_filter.mpr ⟨List.mem_append_right _ (List.mem_append_right _ (List.mem_append_right _ (List.mem_append_left _ (List.mem_of_getElem? (i := 157) rfl)))), rfl⟩
theorem tw_773 : Cond.methodLink RL 170 yX5_reading ∈ gT := List.mem_filter.mpr ⟨List.mem_append_right _ (List.mem_append_right _ (List.mem_append_right _ (List.mem_append_right _ (List.mem_append_left _ (List.mem_of_getElem? (i := 147) rfl))))), rfl⟩
theorem tw_774 : Cond.instanceMethod yX5_reading ∈ gT := List.mem_filter.mpr ⟨List.mem_append_right _ (List.mem_append_right _ (List.mem_append_right _ (List.mem_append_right _ (List.mem_append_left _ (List.mem_of_getElem? (i := 148) rfl))))), rfl⟩
theorem tw_775 : Cond.selects RX5 yX5_reading yX5_reading ∈ gT := List.mem_filter.mpr ⟨List.mem_append_right _ (List.mem_append_right _ (List.mem_append_right _ (List.mem_append_right _ (List.mem_append_left _ (List.mem_of_getElem? (i := 149) rfl))))), rfl⟩
theorem tw_776 : Cond.methodLink RL 171 yL_surveyOf ∈ gT := List.mem_filter.mpr ⟨List.mem_append_right _ (List.mem_append_right _ (List.mem_append_right _ (List.mem_append_left _ (List.mem_of_getElem? (i := 160) rfl)))), rfl⟩
theorem tw_777 : Cond.static yL_surveyOf ∈ gT := List.mem_filter.mpr ⟨List.mem_append_right _ (List.mem_append_right _ (List.mem_append_right _ (List.mem_append_left _ (List.mem_of_getElem? (i := 161) rfl)))), rfl⟩
theorem tw_778 : Cond.methodLink RL 173 yX5_surveyOf ∈ gT := List.mem_filter.mpr ⟨List.mem_append_right _ (List.mem_append_right _ (List.mem_append_right _ (List.mem_append_right _ (List.mem_append_left _ (List.mem_of_getElem? (i := 182) rfl))))), rfl⟩
theorem tw_779 : Cond.instanceMethod yX5_surveyOf ∈ gT := List.mem_filter.mpr ⟨List.mem_append_right _ (List.mem_append_right _ (List.mem_append_right _ (List.mem_append_right _ (List.mem_append_left _ (List.mem_of_getElem? (i := 183) rfl))))), rfl⟩
theorem tw_780 : Cond.selects RX5 yX5_surveyOf yX5_surveyOf ∈ gT := List.mem_filter.mpr ⟨List.mem_append_right _ (List.mem_append_right _ (List.mem_append_right _ (List.mem_append_right _ (List.mem_append_left _ (List.mem_of_getElem? (i := 184) rfl))))), rfl⟩
theorem tw_781 : Cond.methodLink RL 174 yL_place ∈ gT := List.mem_filter.mpr ⟨List.mem_append_right _ (List.mem_append_right _ (List.mem_append_right _ (List.mem_append_left _ (List.mem_of_getElem? (i := 164) rfl)))), rfl⟩
theorem tw_782 : Cond.static yL_place ∈ gT := List.mem_filter.mpr ⟨List.mem_append_right _ (List.mem_append_right _ (List.mem_append_right _ (List.mem_append_left _ (List.mem_of_getElem? (i := 165) rfl)))), rfl⟩
theorem tw_783 : Cond.methodLink RL 176 yX5_place ∈ gT := List.mem_filter.mpr ⟨List.mem_append_right _ (List.mem_append_right _ (List.mem_append_right _ (List.mem_append_right _ (List.mem_append_left _ (List.mem_of_getElem? (i := 198) rfl))))), rfl⟩
theorem tw_784 : Cond.instanceMethod yX5_place ∈ gT := List.mem_filter.mpr ⟨List.mem_append_right _ (List.mem_append_right _ (List.mem_append_right _ (List.mem_append_right _ (List.mem_append_left _ (List.mem_of_getElem? (i := 199) rfl))))), rfl⟩
theorem tw_785 : Cond.selects RX5 yX5_place yX5_place ∈ gT := List.mem_filter.mpr ⟨List.mem_append_right _ (List.mem_append_right _ (List.mem_append_right _ (List.mem_append_right _ (List.mem_append_left _ (List.mem_of_getElem? (i := 200) rfl))))), rfl⟩
theorem tw_786 : Cond.methodLink RL 177 yL_count ∈ gT := List.mem_filter.mpr ⟨List.mem_append_right _ (List.mem_append_right _ (List.mem_append_right _ (List.mem_append_left _ (List.mem_of_getElem? (i := 168) rfl)))), rfl⟩
theorem tw_787 : Cond.static yL_count ∈ gT := List.mem_filter.mpr ⟨List.mem_append_right _ (List.mem_append_right _ (List.mem_append_right _ (List.mem_append_left _ (List.mem_of_getElem? (i := 169) rfl)))), rfl⟩
theorem tw_788 : Cond.methodLink RL 179 yX5_count ∈ gT := List.mem_filter.mpr ⟨List.mem_append_right _ (List.mem_append_right _ (List.mem_append_right _ (List.mem_append_right _ (List.mem_append_left _ (List.mem_of_getElem? (i := 206) rfl))))), rfl⟩
theorem tw_789 : Cond.instanceMethod yX5_count ∈ gT := List.mem_filter.mpr ⟨List.mem_append_right _ (List.mem_append_right _ (List.mem_append_right _ (List.mem_append_right _ (List.mem_append_left _ (List.mem_of_getElem? (i := 207) rfl))))), rfl⟩
theorem tw_790 : Cond.selects RX5 yX5_count yX5_count ∈ gT := List.mem_filter.mpr ⟨List.mem_append_right _ (List.mem_append_right _ (List.mem_append_right _ (List.mem_append_right _ (List.mem_append_left _ (List.mem_of_getElem? (i := 208) rfl))))), rfl⟩
theorem tw_791 : Cond.methodLink RL 180 yL_setting ∈ gT := List.mem_filter.mpr ⟨List.mem_append_right _ (List.mem_append_right _ (List.mem_append_right _ (List.mem_append_left _ (List.mem_of_getElem? (i := 172) rfl)))), rfl⟩
theorem tw_792 : Cond.static yL_setting ∈ gT := List.mem_filter.mpr ⟨List.mem_append_right _ (List.mem_append_right _ (List.mem_append_right _ (List.mem_append_left _ (List.mem_of_getElem? (i := 173) rfl)))), rfl⟩
theorem tw_793 : Cond.methodLink RL 182 yX5_setting ∈ gT := List.mem_filter.mpr ⟨List.mem_append_right _ (List.mem_append_right _ (List.mem_append_right _ (List.mem_append_right _ (List.mem_append_left _ (List.mem_of_getElem? (i := 218) rfl))))), rfl⟩
theorem tw_794 : Cond.instanceMethod yX5_setting ∈ gT := List.mem_filter.mpr ⟨List.mem_append_right _ (List.mem_append_right _ (List.mem_append_right _ (List.mem_append_right _ (List.mem_append_left _ (List.mem_of_getElem? (i := 219) rfl))))), rfl⟩
theorem tw_795 : Cond.selects RX5 yX5_setting yX5_setting ∈ gT := List.mem_filter.mpr ⟨List.mem_append_right _ (List.mem_append_right _ (List.mem_append_right _ (List.mem_append_right _ (List.mem_append_left _ (List.mem_of_getElem? (i := 220) rfl))))), rfl⟩
theorem tw_796 : Cond.methodLink RL 183 yL_moved ∈ gT := List.mem_filter.mpr ⟨List.mem_append_right _ (List.mem_append_right _ (List.mem_append_right _ (List.mem_append_left _ (List.mem_of_getElem? (i := 179) rfl)))), rfl⟩
theorem tw_797 : Cond.static yL_moved ∈ gT := List.mem_filter.mpr ⟨List.mem_append_right _ (List.mem_append_right _ (List.mem_append_right _ (List.mem_append_left _ (List.mem_of_getElem? (i := 180) rfl)))), rfl⟩
theorem tw_798 : Cond.methodLink RL 185 yX5_moved ∈ gT := List.mem_filter.mpr ⟨List.mem_append_right _ (List.mem_append_right _ (List.mem_append_right _ (List.mem_append_right _ (List.mem_append_left _ (List.mem_of_getElem? (i := 222) rfl))))), rfl⟩
theorem tw_799 : Cond.instanceMethod yX5_moved ∈ gT := List.mem_filter.mpr ⟨List.mem_append_right _ (List.mem_append_right _ (List.mem_append_right _ (List.mem_append_right _ (List.mem_append_left _ (List.mem_of_getElem? (i := 223) rfl))))), rfl⟩
theorem tw_800 : Cond.selects RX5 yX5_moved yX5_moved ∈ gT := List.mem_filter.mpr ⟨List.mem_append_right _ (List.mem_append_right _ (List.mem_append_right _ (List.mem_append_right _ (List.mem_append_left _ (List.mem_of_getElem? (i := 224) rfl))))), rfl⟩
theorem tw_801 : Cond.methodLink RL 186 yL_slidesAt ∈ gT := List.mem_filter.mpr ⟨List.mem_append_right _ (List.mem_append_right _ (List.mem_append_right _ (List.mem_append_left _ (List.mem_of_getElem? (i := 186) rfl)))), rfl⟩
theorem tw_802 : Cond.static yL_slidesAt ∈ gT := List.mem_filter.mpr ⟨List.mem_append_right _ (List.mem_append_right _ (List.mem_append_right _ (List.mem_append_left _ (List.mem_of_getElem? (i := 187) rfl)))), rfl⟩
theorem tw_803 : Cond.methodLink RL 188 yX5_slidesAt ∈ gT := List.mem_filter.mpr ⟨List.mem_append_right _ (List.mem_append_right _ (List.mem_append_right _ (List.mem_append_right _ (List.mem_append_left _ (List.mem_of_getElem? (i := 234) rfl))))), rfl⟩
theorem tw_804 : Cond.instanceMethod yX5_slidesAt ∈ gT := List.mem_filter.mpr ⟨List.mem_append_right _ (List.mem_append_right _ (List.mem_append_right _ (List.mem_append_right _ (List.mem_append_left _ (List.mem_of_getElem? (i := 235) rfl))))), rfl⟩
theorem tw_805 : Cond.selects RX5 yX5_slidesAt yX5_slidesAt ∈ gT := List.mem_filter.mpr ⟨List.mem_append_right _ (List.mem_append_right _ (List.mem_append_right _ (List.mem_append_right _ (List.mem_append_left _ (List.mem_of_getElem? (i := 236) rfl))))), rfl⟩
theorem tw_806 : Cond.methodLink RL 189 yL_firstMoved ∈ gT := List.mem_filter.mpr ⟨List.mem_append_right _ (List.mem_append_right _ (List.mem_append_right _ (List.mem_append_left _ (List.mem_of_getElem? (i := 190) rfl)))), rfl⟩
theorem tw_807 : Cond.static yL_firstMoved ∈ gT := List.mem_filter.mpr ⟨List.mem_append_right _ (List.mem_append_right _ (List.mem_append_right _ (List.mem_append_left _ (List.mem_of_getElem? (i := 191) rfl)))), rfl⟩
theorem tw_808 : Cond.methodLink RL 191 yX5_firstMoved ∈ gT := List.mem_filter.mpr ⟨List.mem_append_right _ (List.mem_append_right _ (List.mem_append_right _ (List.mem_append_right _ (List.mem_append_right _ (List.mem_of_getElem? (i := 2) rfl))))), rfl⟩
theorem tw_809 : Cond.instanceMethod yX5_firstMoved ∈ gT := List.mem_filter.mpr ⟨List.mem_append_right _ (List.mem_append_right _ (List.mem_append_right _ (List.mem_append_right _ (List.mem_append_right _ (List.mem_of_getElem? (i := 3) rfl))))), rfl⟩
theorem tw_810 : Cond.selects RX5 yX5_firstMoved yX5_firstMoved ∈ gT := List.mem_filter.mpr ⟨List.mem_append_right _ (List.mem_append_right _ (List.mem_append_right _ (List.mem_append_right _ (List.mem_append_right _ (List.mem_of_getElem? (i := 4) rfl))))), rfl⟩
theorem tw_811 : Cond.methodLink RL 192 yL_speed ∈ gT := List.mem_filter.mpr ⟨List.mem_append_right _ (List.mem_append_right _ (List.mem_append_right _ (List.mem_append_left _ (List.mem_of_getElem? (i := 194) rfl)))), rfl⟩
theorem tw_812 : Cond.static yL_speed ∈ gT := List.mem_filter.mpr ⟨List.mem_append_right _ (List.mem_append_right _ (List.mem_append_right _ (List.mem_append_left _ (List.mem_of_getElem? (i := 195) rfl)))), rfl⟩
theorem tw_813 : Cond.methodLink RL 195 yX5_speed ∈ gT := List.mem_filter.mpr ⟨List.mem_append_right _ (List.mem_append_right _ (List.mem_append_right _ (List.mem_append_right _ (List.mem_append_right _ (List.mem_of_getElem? (i := 10) rfl))))), rfl⟩
theorem tw_814 : Cond.instanceMethod yX5_speed ∈ gT := List.mem_filter.mpr ⟨List.mem_append_right _ (List.mem_append_right _ (List.mem_append_right _ (List.mem_append_right _ (List.mem_append_right _ (List.mem_of_getElem? (i := 11) rfl))))), rfl⟩
theorem tw_815 : Cond.selects RX5 yX5_speed yX5_speed ∈ gT := List.mem_filter.mpr ⟨List.mem_append_right _ (List.mem_append_right _ (List.mem_append_right _ (List.mem_append_right _ (List.mem_append_right _ (List.mem_of_getElem? (i := 12) rfl))))), rfl⟩
theorem tw_816 : Cond.methodLink RL 196 yL_meanCheck ∈ gT := List.mem_filter.mpr ⟨List.mem_append_right _ (List.mem_append_right _ (List.mem_append_right _ (List.mem_append_left _ (List.mem_of_getElem? (i := 198) rfl)))), rfl⟩
theorem tw_817 : Cond.static yL_meanCheck ∈ gT := List.mem_filter.mpr ⟨List.mem_append_right _ (List.mem_append_right _ (List.mem_append_right _ (List.mem_append_left _ (List.mem_of_getElem? (i := 199) rfl)))), rfl⟩
theorem tw_818 : Cond.methodLink RL 199 yX5_meanCheck ∈ gT := List.mem_filter.mpr ⟨List.mem_append_right _ (List.mem_append_right _ (List.mem_append_right _ (List.mem_append_right _ (List.mem_append_right _ (List.mem_of_getElem? (i := 18) rfl))))), rfl⟩
theorem tw_819 : Cond.instanceMethod yX5_meanCheck ∈ gT := List.mem_filter.mpr ⟨List.mem_append_right _ (List.mem_append_right _ (List.mem_append_right _ (List.mem_append_right _ (List.mem_append_right _ (List.mem_of_getElem? (i := 19) rfl))))), rfl⟩
theorem tw_820 : Cond.selects RX5 yX5_meanCheck yX5_meanCheck ∈ gT := List.mem_filter.mpr ⟨List.mem_append_right _ (List.mem_append_right _ (List.mem_append_right _ (List.mem_append_right _ (List.mem_append_right _ (List.mem_of_getElem? (i := 20) rfl))))), rfl⟩
theorem tw_821 : Cond.methodLink RL 200 yL_spread ∈ gT := List.mem_filter.mpr ⟨List.mem_append_right _ (List.mem_append_right _ (List.mem_append_right _ (List.mem_append_left _ (List.mem_of_getElem? (i := 202) rfl)))), rfl⟩
theorem tw_822 : Cond.static yL_spread ∈ gT := List.mem_filter.mpr ⟨List.mem_append_right _ (List.mem_append_right _ (List.mem_append_right _ (List.mem_append_left _ (List.mem_of_getElem? (i := 203) rfl)))), rfl⟩
theorem tw_823 : Cond.methodLink RL 202 yX5_spread ∈ gT := List.mem_filter.mpr ⟨List.mem_append_right _ (List.mem_append_right _ (List.mem_append_right _ (List.mem_append_right _ (List.mem_append_right _ (List.mem_of_getElem? (i := 31) rfl))))), rfl⟩
theorem tw_824 : Cond.instanceMethod yX5_spread ∈ gT := List.mem_filter.mpr ⟨List.mem_append_right _ (List.mem_append_right _ (List.mem_append_right _ (List.mem_append_right _ (List.mem_append_right _ (List.mem_of_getElem? (i := 32) rfl))))), rfl⟩
theorem tw_825 : Cond.selects RX5 yX5_spread yX5_spread ∈ gT := List.mem_filter.mpr ⟨List.mem_append_right _ (List.mem_append_right _ (List.mem_append_right _ (List.mem_append_right _ (List.mem_append_right _ (List.mem_of_getElem? (i := 33) rfl))))), rfl⟩
theorem tw_826 : Cond.methodLink RL 203 yX4_digest ∈ gT := List.mem_filter.mpr ⟨List.mem_append_right _ (List.mem_append_left _ (List.mem_of_getElem? (i := 227) rfl)), rfl⟩
theorem tw_827 : Cond.instanceMethod yX4_digest ∈ gT := List.mem_filter.mpr ⟨List.mem_append_right _ (List.mem_append_left _ (List.mem_of_getElem? (i := 228) rfl)), rfl⟩
theorem tw_828 : Cond.selects RX4 yX4_digest yX4_digest ∈ gT := List.mem_filter.mpr ⟨List.mem_append_right _ (List.mem_append_left _ (List.mem_of_getElem? (i := 229) rfl)), rfl⟩
theorem tw_829 : Cond.methodLink RL 207 yX5_digest ∈ gT := List.mem_filter.mpr ⟨List.mem_append_right _ (List.mem_append_right _ (List.mem_append_right _ (List.mem_append_right _ (List.mem_append_right _ (List.mem_of_getElem? (i := 41) rfl))))), rfl⟩
theorem tw_830 : Cond.instanceMethod yX5_digest ∈ gT := List.mem_filter.mpr ⟨List.mem_append_right _ (List.mem_append_right _ (List.mem_append_right _ (List.mem_append_right _ (List.mem_append_right _ (List.mem_of_getElem? (i := 42) rfl))))), rfl⟩
theorem tw_831 : Cond.selects RX5 yX5_digest yX5_digest ∈ gT := List.mem_filter.mpr ⟨List.mem_append_right _ (List.mem_append_right _ (List.mem_append_right _ (List.mem_append_right _ (List.mem_append_right _ (List.mem_of_getElem? (i := 43) rfl))))), rfl⟩
theorem tw_X0_0 : Cond.laysFinal "SlotProbe$Findings" "SlotProbe$Findings" "commons" "[I" ∈ gT := List.mem_filter.mpr ⟨List.mem_append_right _ (List.mem_append_left _ (List.mem_of_getElem? (i := 113) rfl)), rfl⟩
theorem tw_X0_1 : Cond.laysFinal "SlotProbe$Findings" "SlotProbe$Findings" "off" "[I" ∈ gT := List.mem_filter.mpr ⟨List.mem_append_right _ (List.mem_append_left _ (List.mem_of_getElem? (i := 115) rfl)), rfl⟩
theorem tw_X0_2 : Cond.laysFinal "SlotProbe$Findings" "SlotProbe$Findings" "read" "[I" ∈ gT := List.mem_filter.mpr ⟨List.mem_append_right _ (List.mem_append_left _ (List.mem_of_getElem? (i := 117) rfl)), rfl⟩
theorem tw_X0_3 : Cond.laysFinal "SlotProbe$Findings" "SlotProbe$Findings" "told" "[I" ∈ gT := List.mem_filter.mpr ⟨List.mem_append_right _ (List.mem_append_left _ (List.mem_of_getElem? (i := 119) rfl)), rfl⟩
theorem tw_X0_4 : Cond.laysFinal "SlotProbe$Findings" "SlotProbe$Findings" "ordered" "[I" ∈ gT := List.mem_filter.mpr ⟨List.mem_append_right _ (List.mem_append_left _ (List.mem_of_getElem? (i := 121) rfl)), rfl⟩
theorem tw_X0_5 : Cond.lays "SlotProbe$Findings" "SlotProbe$Findings" "fresh" "Z" ∈ gT := List.mem_filter.mpr ⟨List.mem_append_right _ (List.mem_append_left _ (List.mem_of_getElem? (i := 123) rfl)), rfl⟩
theorem iX0 : ∀ w ∈ wsX00, w ∈ gT := by
  intro w hw
  obtain ⟨k, hk, rfl⟩ := List.mem_map.mp hw
  have hk := List.mem_range.mp hk
  match k, hk with
  | 0, _ => exact tw_X0_0
  | 1, _ => exact tw_X0_1
  | 2, _ => exact tw_X0_2
  | 3, _ => exact tw_X0_3
  | 4, _ => exact tw_X0_4
  | 5, _ => exact tw_X0_5
  | k + 6, hk => exact absurd hk (by omega)
theorem tw_X1_0 : Cond.laysFinal "SlotProbe$History" "SlotProbe$History" "ring" "[LSlotProbe$State;" ∈ gT := List.mem_filter.mpr ⟨List.mem_append_right _ (List.mem_append_left _ (List.mem_of_getElem? (i := 88) rfl)), rfl⟩
theorem tw_X1_1 : Cond.lays "SlotProbe$History" "SlotProbe$History" "oldest" "I" ∈ gT := List.mem_filter.mpr ⟨List.mem_append_right _ (List.mem_append_left _ (List.mem_of_getElem? (i := 90) rfl)), rfl⟩
theorem tw_X1_2 : Cond.lays "SlotProbe$History" "SlotProbe$History" "saved" "I" ∈ gT := List.mem_filter.mpr ⟨List.mem_append_right _ (List.mem_append_left _ (List.mem_of_getElem? (i := 92) rfl)), rfl⟩
theorem iX1 : ∀ w ∈ wsX10, w ∈ gT := by
  intro w hw
  obtain ⟨k, hk, rfl⟩ := List.mem_map.mp hw
  have hk := List.mem_range.mp hk
  match k, hk with
  | 0, _ => exact tw_X1_0
  | 1, _ => exact tw_X1_1
  | 2, _ => exact tw_X1_2
  | k + 3, hk => exact absurd hk (by omega)
theorem tw_X2_0 : Cond.laysFinal "SlotProbe$State" "SlotProbe$State" "tilts" "[I" ∈ gT := List.mem_filter.mpr ⟨List.mem_append_right _ (List.mem_append_left _ (List.mem_of_getElem? (i := 53) rfl)), rfl⟩
theorem tw_X2_1 : Cond.laysFinal "SlotProbe$State" "SlotProbe$State" "turns" "[I" ∈ gT := List.mem_filter.mpr ⟨List.mem_append_right _ (List.mem_append_left _ (List.mem_of_getElem? (i := 55) rfl)), rfl⟩
theorem tw_X2_2 : Cond.laysFinal "SlotProbe$State" "SlotProbe$State" "biases" "[I" ∈ gT := List.mem_filter.mpr ⟨List.mem_append_right _ (List.mem_append_left _ (List.mem_of_getElem? (i := 57) rfl)), rfl⟩
theorem tw_X2_3 : Cond.laysFinal "SlotProbe$State" "SlotProbe$State" "settings" "[I" ∈ gT := List.mem_filter.mpr ⟨List.mem_append_right _ (List.mem_append_left _ (List.mem_of_getElem? (i := 59) rfl)), rfl⟩
theorem tw_X2_4 : Cond.laysFinal "SlotProbe$State" "SlotProbe$State" "readings" "[I" ∈ gT := List.mem_filter.mpr ⟨List.mem_append_right _ (List.mem_append_left _ (List.mem_of_getElem? (i := 61) rfl)), rfl⟩
theorem tw_X2_5 : Cond.laysFinal "SlotProbe$State" "SlotProbe$State" "days" "[I" ∈ gT := List.mem_filter.mpr ⟨List.mem_append_right _ (List.mem_append_left _ (List.mem_of_getElem? (i := 63) rfl)), rfl⟩
theorem tw_X2_6 : Cond.lays "SlotProbe$State" "SlotProbe$State" "day" "I" ∈ gT := List.mem_filter.mpr ⟨List.mem_append_right _ (List.mem_append_left _ (List.mem_of_getElem? (i := 65) rfl)), rfl⟩
theorem tw_X2_7 : Cond.lays "SlotProbe$State" "SlotProbe$State" "surveys" "I" ∈ gT := List.mem_filter.mpr ⟨List.mem_append_right _ (List.mem_append_left _ (List.mem_of_getElem? (i := 67) rfl)), rfl⟩
theorem tw_X2_8 : Cond.lays "SlotProbe$State" "SlotProbe$State" "surveysTaken" "I" ∈ gT := List.mem_filter.mpr ⟨List.mem_append_right _ (List.mem_append_left _ (List.mem_of_getElem? (i := 69) rfl)), rfl⟩
theorem tw_X2_9 : Cond.lays "SlotProbe$State" "SlotProbe$State" "readingsSpoiled" "I" ∈ gT := List.mem_filter.mpr ⟨List.mem_append_right _ (List.mem_append_left _ (List.mem_of_getElem? (i := 71) rfl)), rfl⟩
theorem iX2 : ∀ w ∈ wsX20, w ∈ gT := by
  intro w hw
  obtain ⟨k, hk, rfl⟩ := List.mem_map.mp hw
  have hk := List.mem_range.mp hk
  match k, hk with
  | 0, _ => exact tw_X2_0
  | 1, _ => exact tw_X2_1
  | 2, _ => exact tw_X2_2
  | 3, _ => exact tw_X2_3
  | 4, _ => exact tw_X2_4
  | 5, _ => exact tw_X2_5
  | 6, _ => exact tw_X2_6
  | 7, _ => exact tw_X2_7
  | 8, _ => exact tw_X2_8
  | 9, _ => exact tw_X2_9
  | k + 10, hk => exact absurd hk (by omega)
theorem tw_X3_0 : Cond.lays "SlotProbe$TextReader" "SlotProbe$TextReader" "step" "I" ∈ gT := List.mem_filter.mpr ⟨List.mem_append_right _ (List.mem_append_left _ (List.mem_of_getElem? (i := 141) rfl)), rfl⟩
theorem tw_X3_1 : Cond.lays "SlotProbe$TextReader" "SlotProbe$TextReader" "level" "I" ∈ gT := List.mem_filter.mpr ⟨List.mem_append_right _ (List.mem_append_left _ (List.mem_of_getElem? (i := 143) rfl)), rfl⟩
theorem tw_X3_2 : Cond.lays "SlotProbe$TextReader" "SlotProbe$TextReader" "own" "I" ∈ gT := List.mem_filter.mpr ⟨List.mem_append_right _ (List.mem_append_left _ (List.mem_of_getElem? (i := 145) rfl)), rfl⟩
theorem tw_X3_3 : Cond.lays "SlotProbe$TextReader" "SlotProbe$TextReader" "face" "I" ∈ gT := List.mem_filter.mpr ⟨List.mem_append_right _ (List.mem_append_left _ (List.mem_of_getElem? (i := 147) rfl)), rfl⟩
theorem tw_X3_4 : Cond.lays "SlotProbe$TextReader" "SlotProbe$TextReader" "number" "I" ∈ gT := List.mem_filter.mpr ⟨List.mem_append_right _ (List.mem_append_left _ (List.mem_of_getElem? (i := 149) rfl)), rfl⟩
theorem tw_X3_5 : Cond.lays "SlotProbe$TextReader" "SlotProbe$TextReader" "below" "Z" ∈ gT := List.mem_filter.mpr ⟨List.mem_append_right _ (List.mem_append_left _ (List.mem_of_getElem? (i := 151) rfl)), rfl⟩
theorem iX3 : ∀ w ∈ wsX30, w ∈ gT := by
  intro w hw
  obtain ⟨k, hk, rfl⟩ := List.mem_map.mp hw
  have hk := List.mem_range.mp hk
  match k, hk with
  | 0, _ => exact tw_X3_0
  | 1, _ => exact tw_X3_1
  | 2, _ => exact tw_X3_2
  | 3, _ => exact tw_X3_3
  | 4, _ => exact tw_X3_4
  | 5, _ => exact tw_X3_5
  | k + 6, hk => exact absurd hk (by omega)
theorem tw_X4_0 : Cond.laysFinal "SlotProbe" "SlotProbe" "now" "LSlotProbe$State;" ∈ gT := List.mem_filter.mpr ⟨List.mem_append_right _ (List.mem_append_left _ (List.mem_of_getElem? (i := 162) rfl)), rfl⟩
theorem tw_X4_1 : Cond.laysFinal "SlotProbe" "SlotProbe" "slots" "[LSlotProbe$State;" ∈ gT := List.mem_filter.mpr ⟨List.mem_append_right _ (List.mem_append_left _ (List.mem_of_getElem? (i := 164) rfl)), rfl⟩
theorem tw_X4_2 : Cond.laysFinal "SlotProbe" "SlotProbe" "slotHolds" "[Z" ∈ gT := List.mem_filter.mpr ⟨List.mem_append_right _ (List.mem_append_left _ (List.mem_of_getElem? (i := 166) rfl)), rfl⟩
theorem tw_X4_3 : Cond.laysFinal "SlotProbe" "SlotProbe" "history" "LSlotProbe$History;" ∈ gT := List.mem_filter.mpr ⟨List.mem_append_right _ (List.mem_append_left _ (List.mem_of_getElem? (i := 168) rfl)), rfl⟩
theorem tw_X4_4 : Cond.laysFinal "SlotProbe" "SlotProbe" "findings" "LSlotProbe$Findings;" ∈ gT := List.mem_filter.mpr ⟨List.mem_append_right _ (List.mem_append_left _ (List.mem_of_getElem? (i := 170) rfl)), rfl⟩
theorem tw_X4_5 : Cond.laysFinal "SlotProbe" "SlotProbe" "reader" "LSlotProbe$TextReader;" ∈ gT := List.mem_filter.mpr ⟨List.mem_append_right _ (List.mem_append_left _ (List.mem_of_getElem? (i := 172) rfl)), rfl⟩
theorem tw_X4_6 : Cond.laysFinal "SlotProbe" "SlotProbe" "buffer" "[C" ∈ gT := List.mem_filter.mpr ⟨List.mem_append_right _ (List.mem_append_left _ (List.mem_of_getElem? (i := 174) rfl)), rfl⟩
theorem tw_X4_7 : Cond.lays "SlotProbe" "SlotProbe" "bufferLength" "I" ∈ gT := List.mem_filter.mpr ⟨List.mem_append_right _ (List.mem_append_left _ (List.mem_of_getElem? (i := 176) rfl)), rfl⟩
theorem iX4 : ∀ w ∈ wsX40, w ∈ gT := by
  intro w hw
  obtain ⟨k, hk, rfl⟩ := List.mem_map.mp hw
  have hk := List.mem_range.mp hk
  match k, hk with
  | 0, _ => exact tw_X4_0
  | 1, _ => exact tw_X4_1
  | 2, _ => exact tw_X4_2
  | 3, _ => exact tw_X4_3
  | 4, _ => exact tw_X4_4
  | 5, _ => exact tw_X4_5
  | 6, _ => exact tw_X4_6
  | 7, _ => exact tw_X4_7
  | k + 8, hk => exact absurd hk (by omega)
theorem tw_X5_0 : Cond.lays "SlotProbeModel" "SlotProbeModel" "thrown" "I" ∈ gT := List.mem_filter.mpr ⟨List.mem_append_right _ (List.mem_append_right _ (List.mem_append_right _ (List.mem_append_left _ (List.mem_of_getElem? (i := 222) rfl)))), rfl⟩
theorem tw_X5_1 : Cond.laysFinal "SlotProbeModel" "SlotProbeModel" "s" "[I" ∈ gT := List.mem_filter.mpr ⟨List.mem_append_right _ (List.mem_append_right _ (List.mem_append_right _ (List.mem_append_left _ (List.mem_of_getElem? (i := 224) rfl)))), rfl⟩
theorem tw_X5_2 : Cond.lays "SlotProbeModel" "SlotProbeModel" "saved" "I" ∈ gT := List.mem_filter.mpr ⟨List.mem_append_right _ (List.mem_append_right _ (List.mem_append_right _ (List.mem_append_left _ (List.mem_of_getElem? (i := 226) rfl)))), rfl⟩
theorem tw_X5_3 : Cond.laysFinal "SlotProbeModel" "SlotProbeModel" "isKept" "[Z" ∈ gT := List.mem_filter.mpr ⟨List.mem_append_right _ (List.mem_append_right _ (List.mem_append_right _ (List.mem_append_left _ (List.mem_of_getElem? (i := 228) rfl)))), rfl⟩
theorem tw_X5_4 : Cond.laysFinal "SlotProbeModel" "SlotProbeModel" "text" "[I" ∈ gT := List.mem_filter.mpr ⟨List.mem_append_right _ (List.mem_append_right _ (List.mem_append_right _ (List.mem_append_left _ (List.mem_of_getElem? (i := 230) rfl)))), rfl⟩
theorem tw_X5_5 : Cond.lays "SlotProbeModel" "SlotProbeModel" "length" "I" ∈ gT := List.mem_filter.mpr ⟨List.mem_append_right _ (List.mem_append_right _ (List.mem_append_right _ (List.mem_append_left _ (List.mem_of_getElem? (i := 232) rfl)))), rfl⟩
theorem tw_X5_6 : Cond.lays "SlotProbeModel" "SlotProbeModel" "at" "I" ∈ gT := List.mem_filter.mpr ⟨List.mem_append_right _ (List.mem_append_right _ (List.mem_append_right _ (List.mem_append_left _ (List.mem_of_getElem? (i := 234) rfl)))), rfl⟩
theorem tw_X5_7 : Cond.lays "SlotProbeModel" "SlotProbeModel" "place" "I" ∈ gT := List.mem_filter.mpr ⟨List.mem_append_right _ (List.mem_append_right _ (List.mem_append_right _ (List.mem_append_left _ (List.mem_of_getElem? (i := 236) rfl)))), rfl⟩
theorem tw_X5_8 : Cond.lays "SlotProbeModel" "SlotProbeModel" "value" "I" ∈ gT := List.mem_filter.mpr ⟨List.mem_append_right _ (List.mem_append_right _ (List.mem_append_right _ (List.mem_append_left _ (List.mem_of_getElem? (i := 238) rfl)))), rfl⟩
theorem tw_X5_9 : Cond.lays "SlotProbeModel" "SlotProbeModel" "hash" "J" ∈ gT := List.mem_filter.mpr ⟨List.mem_append_right _ (List.mem_append_right _ (List.mem_append_right _ (List.mem_append_right _ (List.mem_append_left _ (List.mem_of_getElem? (i := 0) rfl))))), rfl⟩
theorem iX5 : ∀ w ∈ wsX50, w ∈ gT := by
  intro w hw
  obtain ⟨k, hk, rfl⟩ := List.mem_map.mp hw
  have hk := List.mem_range.mp hk
  match k, hk with
  | 0, _ => exact tw_X5_0
  | 1, _ => exact tw_X5_1
  | 2, _ => exact tw_X5_2
  | 3, _ => exact tw_X5_3
  | 4, _ => exact tw_X5_4
  | 5, _ => exact tw_X5_5
  | 6, _ => exact tw_X5_6
  | 7, _ => exact tw_X5_7
  | 8, _ => exact tw_X5_8
  | 9, _ => exact tw_X5_9
  | k + 10, hk => exact absurd hk (by omega)
set_option maxRecDepth 20000 in
theorem wsL_law_x0 : ∀ w ∈ (vx_atS RX4 237 "java/lang/IndexOutOfBoundsException" ["java/lang/RuntimeException", "java/lang/Exception"]).filter goodWord, w ∈ gT := fun w h => List.mem_filter.mpr ⟨(by decide +kernel : ∀ w ∈ (vx_atS RX4 237 "java/lang/IndexOutOfBoundsException" ["java/lang/RuntimeException", "java/lang/Exception"]).filter goodWord, w ∈ lw_tbl) w h, (List.mem_filter.mp h).2⟩
set_option maxRecDepth 20000 in
theorem wsL_law_x1 : ∀ w ∈ (vx_atS RX4 244 "java/lang/IllegalArgumentException" ["java/lang/RuntimeException", "java/lang/Exception"]).filter goodWord, w ∈ gT := fun w h => List.mem_filter.mpr ⟨(by decide +kernel : ∀ w ∈ (vx_atS RX4 244 "java/lang/IllegalArgumentException" ["java/lang/RuntimeException", "java/lang/Exception"]).filter goodWord, w ∈ lw_tbl) w h, (List.mem_filter.mp h).2⟩
set_option maxRecDepth 20000 in
theorem wsL_law_x2 : ∀ w ∈ (vx_atS RX4 251 "java/lang/IllegalStateException" ["java/lang/RuntimeException", "java/lang/Exception"]).filter goodWord, w ∈ gT := fun w h => List.mem_filter.mpr ⟨(by decide +kernel : ∀ w ∈ (vx_atS RX4 251 "java/lang/IllegalStateException" ["java/lang/RuntimeException", "java/lang/Exception"]).filter goodWord, w ∈ lw_tbl) w h, (List.mem_filter.mp h).2⟩
