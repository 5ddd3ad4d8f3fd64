/-! ===== BEGIN printed: names, fields, word lists, decode rows ===== -/
def RX0 : String := "SlotProbe$Findings"
def TX0 : u_T := fun k => match k with
  | 0 => ("SlotProbe$Findings", "commons", "[I", true)
  | 1 => ("SlotProbe$Findings", "off", "[I", true)
  | 2 => ("SlotProbe$Findings", "read", "[I", true)
  | 3 => ("SlotProbe$Findings", "told", "[I", true)
  | 4 => ("SlotProbe$Findings", "ordered", "[I", true)
  | _ => ("SlotProbe$Findings", "fresh", "Z", false)
def tyX0 : Nat → FieldType := fun k => match k with
  | 0 => .array .int
  | 1 => .array .int
  | 2 => .array .int
  | 3 => .array .int
  | 4 => .array .int
  | _ => .boolean
abbrev wsX00 : List Cond := u_ws RX0 TX0 6
theorem nmX0 : ∀ a, a < 6 → ∀ b, b < 6 → a ≠ b → (TX0 a).2.1 ≠ (TX0 b).2.1 := by decide +kernel
theorem tyX0_ok : ∀ k, k < 6 → parseFieldDescriptor (TX0 k).2.2.1 = some (tyX0 k) := by decide +kernel
abbrev cX0_init : ByteArray := prog_2_method_1_code
def yX0_init : MethodName := ⟨RX0, "<init>", "()V"⟩
abbrev cX0_workOut : ByteArray := prog_2_method_2_code
def yX0_workOut : MethodName := ⟨RX0, "workOut", "(LSlotProbe$State;)V"⟩
abbrev cX0_commonCheck : ByteArray := prog_2_method_3_code
def yX0_commonCheck : MethodName := ⟨RX0, "commonCheck", "(LSlotProbe$State;II)I"⟩
abbrev cX0_isSuspicious : ByteArray := prog_2_method_4_code
def yX0_isSuspicious : MethodName := ⟨RX0, "isSuspicious", "(LSlotProbe$State;III)Z"⟩
abbrev cX0_tiltRead : ByteArray := prog_2_method_5_code
def yX0_tiltRead : MethodName := ⟨RX0, "tiltRead", "(LSlotProbe$State;III)I"⟩
abbrev cX0_tellLevel : ByteArray := prog_2_method_6_code
def yX0_tellLevel : MethodName := ⟨RX0, "tellLevel", "(LSlotProbe$State;II)V"⟩
def RX1 : String := "SlotProbe$History"
def TX1 : u_T := fun k => match k with
  | 0 => ("SlotProbe$History", "ring", "[LSlotProbe$State;", true)
  | 1 => ("SlotProbe$History", "oldest", "I", false)
  | _ => ("SlotProbe$History", "saved", "I", false)
def tyX1 : Nat → FieldType := fun k => match k with
  | 0 => .array (.object "SlotProbe$State")
  | 1 => .int
  | _ => .int
abbrev wsX10 : List Cond := u_ws RX1 TX1 3
theorem nmX1 : ∀ a, a < 3 → ∀ b, b < 3 → a ≠ b → (TX1 a).2.1 ≠ (TX1 b).2.1 := by decide +kernel
theorem tyX1_ok : ∀ k, k < 3 → parseFieldDescriptor (TX1 k).2.2.1 = some (tyX1 k) := by decide +kernel
abbrev cX1_init : ByteArray := prog_3_method_1_code
def yX1_init : MethodName := ⟨RX1, "<init>", "()V"⟩
abbrev cX1_save : ByteArray := prog_3_method_2_code
def yX1_save : MethodName := ⟨RX1, "save", "(LSlotProbe$State;)V"⟩
abbrev cX1_bringBack : ByteArray := prog_3_method_3_code
def yX1_bringBack : MethodName := ⟨RX1, "bringBack", "(LSlotProbe$State;)V"⟩
def RX2 : String := "SlotProbe$State"
def TX2 : u_T := fun k => match k with
  | 0 => ("SlotProbe$State", "tilts", "[I", true)
  | 1 => ("SlotProbe$State", "turns", "[I", true)
  | 2 => ("SlotProbe$State", "biases", "[I", true)
  | 3 => ("SlotProbe$State", "settings", "[I", true)
  | 4 => ("SlotProbe$State", "readings", "[I", true)
  | 5 => ("SlotProbe$State", "days", "[I", true)
  | 6 => ("SlotProbe$State", "day", "I", false)
  | 7 => ("SlotProbe$State", "surveys", "I", false)
  | 8 => ("SlotProbe$State", "surveysTaken", "I", false)
  | _ => ("SlotProbe$State", "readingsSpoiled", "I", false)
def tyX2 : Nat → FieldType := fun k => match k with
  | 0 => .array .int
  | 1 => .array .int
  | 2 => .array .int
  | 3 => .array .int
  | 4 => .array .int
  | 5 => .array .int
  | 6 => .int
  | 7 => .int
  | 8 => .int
  | _ => .int
abbrev wsX20 : List Cond := u_ws RX2 TX2 10
theorem nmX2 : ∀ a, a < 10 → ∀ b, b < 10 → a ≠ b → (TX2 a).2.1 ≠ (TX2 b).2.1 := by decide +kernel
theorem tyX2_ok : ∀ k, k < 10 → parseFieldDescriptor (TX2 k).2.2.1 = some (tyX2 k) := by decide +kernel
abbrev cX2_init : ByteArray := prog_4_method_1_code
def yX2_init : MethodName := ⟨RX2, "<init>", "()V"⟩
abbrev cX2_become : ByteArray := prog_4_method_2_code
def yX2_become : MethodName := ⟨RX2, "become", "(LSlotProbe$State;)V"⟩
def RX3 : String := "SlotProbe$TextReader"
def TX3 : u_T := fun k => match k with
  | 0 => ("SlotProbe$TextReader", "step", "I", false)
  | 1 => ("SlotProbe$TextReader", "level", "I", false)
  | 2 => ("SlotProbe$TextReader", "own", "I", false)
  | 3 => ("SlotProbe$TextReader", "face", "I", false)
  | 4 => ("SlotProbe$TextReader", "number", "I", false)
  | _ => ("SlotProbe$TextReader", "below", "Z", false)
def tyX3 : Nat → FieldType := fun k => match k with
  | 0 => .int
  | 1 => .int
  | 2 => .int
  | 3 => .int
  | 4 => .int
  | _ => .boolean
abbrev wsX30 : List Cond := u_ws RX3 TX3 6
theorem nmX3 : ∀ a, a < 6 → ∀ b, b < 6 → a ≠ b → (TX3 a).2.1 ≠ (TX3 b).2.1 := by decide +kernel
theorem tyX3_ok : ∀ k, k < 6 → parseFieldDescriptor (TX3 k).2.2.1 = some (tyX3 k) := by decide +kernel
abbrev cX3_init : ByteArray := prog_5_method_1_code
def yX3_init : MethodName := ⟨RX3, "<init>", "()V"⟩
def RX4 : String := "SlotProbe"
def TX4 : u_T := fun k => match k with
  | 0 => ("SlotProbe", "now", "LSlotProbe$State;", true)
  | 1 => ("SlotProbe", "slots", "[LSlotProbe$State;", true)
  | 2 => ("SlotProbe", "slotHolds", "[Z", true)
  | 3 => ("SlotProbe", "history", "LSlotProbe$History;", true)
  | 4 => ("SlotProbe", "findings", "LSlotProbe$Findings;", true)
  | 5 => ("SlotProbe", "reader", "LSlotProbe$TextReader;", true)
  | 6 => ("SlotProbe", "buffer", "[C", true)
  | _ => ("SlotProbe", "bufferLength", "I", false)
def tyX4 : Nat → FieldType := fun k => match k with
  | 0 => .object "SlotProbe$State"
  | 1 => .array (.object "SlotProbe$State")
  | 2 => .array .boolean
  | 3 => .object "SlotProbe$History"
  | 4 => .object "SlotProbe$Findings"
  | 5 => .object "SlotProbe$TextReader"
  | 6 => .array .char
  | _ => .int
abbrev wsX40 : List Cond := u_ws RX4 TX4 8
theorem nmX4 : ∀ a, a < 8 → ∀ b, b < 8 → a ≠ b → (TX4 a).2.1 ≠ (TX4 b).2.1 := by decide +kernel
theorem tyX4_ok : ∀ k, k < 8 → parseFieldDescriptor (TX4 k).2.2.1 = some (tyX4 k) := by decide +kernel
abbrev cX4_init : ByteArray := prog_1_method_1_code
def yX4_init : MethodName := ⟨RX4, "<init>", "()V"⟩
abbrev cX4_bend : ByteArray := prog_1_method_2_code
def yX4_bend : MethodName := ⟨RX4, "bend", "(III)I"⟩
abbrev cX4_slide : ByteArray := prog_1_method_3_code
def yX4_slide : MethodName := ⟨RX4, "slide", "(III)I"⟩
abbrev cX4_turn : ByteArray := prog_1_method_4_code
def yX4_turn : MethodName := ⟨RX4, "turn", "(II)I"⟩
abbrev cX4_bias : ByteArray := prog_1_method_5_code
def yX4_bias : MethodName := ⟨RX4, "bias", "(II)I"⟩
abbrev cX4_set : ByteArray := prog_1_method_6_code
def yX4_set : MethodName := ⟨RX4, "set", "(II)I"⟩
abbrev cX4_pass : ByteArray := prog_1_method_7_code
def yX4_pass : MethodName := ⟨RX4, "pass", "(I)I"⟩
abbrev cX4_survey : ByteArray := prog_1_method_8_code
def yX4_survey : MethodName := ⟨RX4, "survey", "()I"⟩
abbrev cX4_drop : ByteArray := prog_1_method_9_code
def yX4_drop : MethodName := ⟨RX4, "drop", "()I"⟩
abbrev cX4_spoil : ByteArray := prog_1_method_10_code
def yX4_spoil : MethodName := ⟨RX4, "spoil", "(IIII)I"⟩
abbrev cX4_keep : ByteArray := prog_1_method_15_code
def yX4_keep : MethodName := ⟨RX4, "keep", "(I)I"⟩
abbrev cX4_goBack : ByteArray := prog_1_method_16_code
def yX4_goBack : MethodName := ⟨RX4, "goBack", "(I)I"⟩
abbrev cX4_undo : ByteArray := prog_1_method_17_code
def yX4_undo : MethodName := ⟨RX4, "undo", "()I"⟩
abbrev cX4_levelOf : ByteArray := prog_1_method_18_code
def yX4_levelOf : MethodName := ⟨RX4, "levelOf", "(II)I"⟩
abbrev cX4_reading : ByteArray := prog_1_method_19_code
def yX4_reading : MethodName := ⟨RX4, "reading", "(IIII)I"⟩
abbrev cX4_surveyOf : ByteArray := prog_1_method_20_code
def yX4_surveyOf : MethodName := ⟨RX4, "surveyOf", "(II)I"⟩
abbrev cX4_place : ByteArray := prog_1_method_21_code
def yX4_place : MethodName := ⟨RX4, "place", "(IIII)I"⟩
abbrev cX4_count : ByteArray := prog_1_method_22_code
def yX4_count : MethodName := ⟨RX4, "count", "(I)I"⟩
abbrev cX4_setting : ByteArray := prog_1_method_23_code
def yX4_setting : MethodName := ⟨RX4, "setting", "(I)I"⟩
abbrev cX4_moved : ByteArray := prog_1_method_24_code
def yX4_moved : MethodName := ⟨RX4, "moved", "(IIII)I"⟩
abbrev cX4_slidesAt : ByteArray := prog_1_method_25_code
def yX4_slidesAt : MethodName := ⟨RX4, "slidesAt", "(III)I"⟩
abbrev cX4_firstMoved : ByteArray := prog_1_method_26_code
def yX4_firstMoved : MethodName := ⟨RX4, "firstMoved", "(IIII)I"⟩
abbrev cX4_spread : ByteArray := prog_1_method_29_code
def yX4_spread : MethodName := ⟨RX4, "spread", "(II)D"⟩
abbrev cX4_isWithin : ByteArray := prog_1_method_31_code
def yX4_isWithin : MethodName := ⟨RX4, "isWithin", "(III)Z"⟩
abbrev cX4_needIndex : ByteArray := prog_1_method_32_code
def yX4_needIndex : MethodName := ⟨RX4, "needIndex", "(II)V"⟩
abbrev cX4_needRange : ByteArray := prog_1_method_33_code
def yX4_needRange : MethodName := ⟨RX4, "needRange", "(III)V"⟩
abbrev cX4_needState : ByteArray := prog_1_method_35_code
def yX4_needState : MethodName := ⟨RX4, "needState", "(Z)V"⟩
abbrev cX4_readingAt : ByteArray := prog_1_method_36_code
def yX4_readingAt : MethodName := ⟨RX4, "readingAt", "(IIII)I"⟩
abbrev cX4_tiltAt : ByteArray := prog_1_method_37_code
def yX4_tiltAt : MethodName := ⟨RX4, "tiltAt", "(III)I"⟩
abbrev cX4_beginChange : ByteArray := prog_1_method_38_code
def yX4_beginChange : MethodName := ⟨RX4, "beginChange", "()V"⟩
abbrev cX4_turnedTilt : ByteArray := prog_1_method_39_code
def yX4_turnedTilt : MethodName := ⟨RX4, "turnedTilt", "(IIII)I"⟩
abbrev cX4_probeReads : ByteArray := prog_1_method_40_code
def yX4_probeReads : MethodName := ⟨RX4, "probeReads", "(III)I"⟩
abbrev cX4_checkOf : ByteArray := prog_1_method_41_code
def yX4_checkOf : MethodName := ⟨RX4, "checkOf", "(LSlotProbe$State;III)I"⟩
abbrev cX4_turnedLevels : ByteArray := prog_1_method_42_code
def yX4_turnedLevels : MethodName := ⟨RX4, "turnedLevels", "()I"⟩
abbrev cX4_suspiciousTilts : ByteArray := prog_1_method_43_code
def yX4_suspiciousTilts : MethodName := ⟨RX4, "suspiciousTilts", "(I)I"⟩
abbrev cX4_levelFarthestOff : ByteArray := prog_1_method_44_code
def yX4_levelFarthestOff : MethodName := ⟨RX4, "levelFarthestOff", "(I)I"⟩
abbrev cX4_toldTogether : ByteArray := prog_1_method_45_code
def yX4_toldTogether : MethodName := ⟨RX4, "toldTogether", "(IIII)I"⟩
abbrev cX4_slidBetween : ByteArray := prog_1_method_46_code
def yX4_slidBetween : MethodName := ⟨RX4, "slidBetween", "(IIII)I"⟩
abbrev cX4_movedUpTo : ByteArray := prog_1_method_47_code
def yX4_movedUpTo : MethodName := ⟨RX4, "movedUpTo", "(IIII)I"⟩
def RX5 : String := "SlotProbeModel"
def TX5 : u_T := fun k => match k with
  | _ => ("", "", "", false)
def tyX5 : Nat → FieldType := fun k => match k with
  | _ => .int
abbrev wsX50 : List Cond := u_ws RX5 TX5 0
theorem nmX5 : ∀ a, a < 0 → ∀ b, b < 0 → a ≠ b → (TX5 a).2.1 ≠ (TX5 b).2.1 := by decide +kernel
theorem tyX5_ok : ∀ k, k < 0 → parseFieldDescriptor (TX5 k).2.2.1 = some (tyX5 k) := by decide +kernel
def RL : String := "SlotProbeLaw"
abbrev cL_cell : ByteArray := method_2_code
def yL_cell : MethodName := ⟨RL, "cell", "([II)I"⟩
abbrev cL_up : ByteArray := method_3_code
def yL_up : MethodName := ⟨RL, "up", "(II)I"⟩
abbrev cL_looks : ByteArray := method_4_code
def yL_looks : MethodName := ⟨RL, "looks", "(LSlotProbe;)J"⟩
abbrev cL_act : ByteArray := method_5_code
def yL_act : MethodName := ⟨RL, "act", "(LSlotProbe;II)I"⟩
abbrev cL_isLevel : ByteArray := method_6_code
def yL_isLevel : MethodName := ⟨RL, "isLevel", "(LSlotProbe;I)Z"⟩
abbrev cL_isSurvey : ByteArray := method_7_code
def yL_isSurvey : MethodName := ⟨RL, "isSurvey", "(LSlotProbe;I)Z"⟩
abbrev cL_isTaken : ByteArray := method_8_code
def yL_isTaken : MethodName := ⟨RL, "isTaken", "(LSlotProbe;)Z"⟩
abbrev cL_areMoved : ByteArray := method_9_code
def yL_areMoved : MethodName := ⟨RL, "areMoved", "(LSlotProbe;IIII)Z"⟩
abbrev cL_isStill : ByteArray := method_10_code
def yL_isStill : MethodName := ⟨RL, "isStill", "(LSlotProbe;III)Z"⟩
abbrev cL_law : ByteArray := code
def yL_law : MethodName := ⟨RL, "law", "([I)Z"⟩
abbrev gT : List Cond := lw_tbl.filter goodWord
abbrev ws_ (y : MethodName) (cd : ByteArray) (n : Nat) (rt : Option FieldType) : List Cond := .code y cd n rt :: gT
theorem gT_tbl : ∀ w ∈ gT, w ∈ lw_tbl := fun _ h => (List.mem_filter.mp h).1
theorem zgd {k w : Cond} (h : w ∈ gT) : w ∈ k :: gT ∧ ((w.onTables && w.keeps) = true ∨ ∃ ty, w = .arrayClass ty) := ⟨List.mem_cons_of_mem _ h, good_of_word (List.mem_filter.mp h).2⟩
theorem zgS {k : Cond} {own : String} {idx n : Nat} {y : MethodName} {cd : ByteArray} {rt : Option FieldType} (h1 : Cond.methodLink own idx y ∈ gT) (h2 : Cond.static y ∈ gT) (h3 : Cond.initialized y.cls ∈ gT) (h4 : Cond.code y cd n rt ∈ gT) : GoodIn (k :: gT) (va_wsS own idx y (ws_ y cd n rt)) := by
  intro w hw
  refine zgd ?_
  rcases List.mem_append.mp hw with h | h
  · simp only [List.mem_cons, List.not_mem_nil, or_false] at h
    rcases h with rfl | rfl | rfl
    · exact h1
    · exact h2
    · exact h3
  · rcases List.mem_cons.mp h with rfl | h
    · exact h4
    · exact h
theorem zgV {k : Cond} {own C : String} {idx n : Nat} {y : MethodName} {cd : ByteArray} {rt : Option FieldType} (h1 : Cond.methodLink own idx y ∈ gT) (h2 : Cond.instanceMethod y ∈ gT) (h3 : Cond.selects C y y ∈ gT) (h5 : Cond.initialized C ∈ gT) (h4 : Cond.code y cd n rt ∈ gT) : GoodIn (k :: gT) (wsV own idx C y (ws_ y cd n rt)) := by
  intro w hw
  refine zgd ?_
  rcases List.mem_append.mp hw with h | h
  · simp only [List.mem_cons, List.not_mem_nil, or_false] at h
    rcases h with rfl | rfl | rfl | rfl
    · exact h1
    · exact h2
    · exact h3
    · exact h5
  · rcases List.mem_cons.mp h with rfl | h
    · exact h4
    · exact h
theorem zgI {k : Cond} {n : Nat} {y : MethodName} {cd : ByteArray} {rt : Option FieldType} (h4 : Cond.code y cd n rt ∈ gT) : GoodIn (k :: gT) (ws_ y cd n rt) := by
  intro w hw
  refine zgd ?_
  rcases List.mem_cons.mp hw with rfl | h
  · exact h4
  · exact h

theorem tw_0 : Cond.code yX0_init cX0_init 1 none ∈ gT := List.mem_filter.mpr ⟨List.mem_append_right _ (List.mem_append_left _ (List.mem_of_getElem? (i := 99) rfl)), rfl⟩
theorem tw_1 : Cond.methodLink RX0 3 objectInit ∈ gT := List.mem_filter.mpr ⟨List.mem_append_right _ (List.mem_append_left _ (List.mem_of_getElem? (i := 100) rfl)), rfl⟩
theorem tw_2 : Cond.instanceMethod objectInit ∈ gT := List.mem_filter.mpr ⟨List.mem_append_right _ (List.mem_append_left _ (List.mem_of_getElem? (i := 20) rfl)), rfl⟩
theorem tw_3 : Cond.code objectInit ⟨#[0xb1]⟩ 1 none ∈ gT := List.mem_filter.mpr ⟨List.mem_append_right _ (List.mem_append_left _ (List.mem_of_getElem? (i := 21) rfl)), rfl⟩
theorem tw_4 : Cond.arrayClass .int ∈ gT := List.mem_filter.mpr ⟨List.mem_append_right _ (List.mem_append_left _ (List.mem_of_getElem? (i := 73) rfl)), rfl⟩
theorem tw_5 : Cond.fieldLink RX0 9 "SlotProbe$Findings" "commons" "[I" ∈ gT := List.mem_filter.mpr ⟨List.mem_append_right _ (List.mem_append_left _ (List.mem_of_getElem? (i := 101) rfl)), rfl⟩
theorem tw_6 : Cond.fieldLink RX0 15 "SlotProbe$Findings" "off" "[I" ∈ gT := List.mem_filter.mpr ⟨List.mem_append_right _ (List.mem_append_left _ (List.mem_of_getElem? (i := 103) rfl)), rfl⟩
theorem tw_7 : Cond.fieldLink RX0 18 "SlotProbe$Findings" "read" "[I" ∈ gT := List.mem_filter.mpr ⟨List.mem_append_right _ (List.mem_append_left _ (List.mem_of_getElem? (i := 105) rfl)), rfl⟩
theorem tw_8 : Cond.fieldLink RX0 21 "SlotProbe$Findings" "told" "[I" ∈ gT := List.mem_filter.mpr ⟨List.mem_append_right _ (List.mem_append_left _ (List.mem_of_getElem? (i := 107) rfl)), rfl⟩
theorem tw_9 : Cond.fieldLink RX0 24 "SlotProbe$Findings" "ordered" "[I" ∈ gT := List.mem_filter.mpr ⟨List.mem_append_right _ (List.mem_append_left _ (List.mem_of_getElem? (i := 109) rfl)), rfl⟩
theorem tw_10 : Cond.fieldLink RX0 27 "SlotProbe$Findings" "fresh" "Z" ∈ gT := List.mem_filter.mpr ⟨List.mem_append_right _ (List.mem_append_left _ (List.mem_of_getElem? (i := 110) rfl)), rfl⟩
theorem tw_11 : Cond.code yX0_workOut cX0_workOut 6 none ∈ gT := List.mem_filter.mpr ⟨List.mem_append_right _ (List.mem_append_right _ (List.mem_append_left _ (List.mem_of_getElem? (i := 107) rfl))), rfl⟩
theorem tw_12 : Cond.fieldLink RX0 31 "SlotProbe$State" "surveys" "I" ∈ gT := List.mem_filter.mpr ⟨List.mem_append_right _ (List.mem_append_left _ (List.mem_of_getElem? (i := 46) rfl)), rfl⟩
theorem tw_13 : Cond.methodLink RX0 49 Lib.Math.abs.name ∈ gT := List.mem_filter.mpr ⟨List.mem_append_right _ (List.mem_append_right _ (List.mem_append_left _ (List.mem_of_getElem? (i := 121) rfl))), rfl⟩
theorem tw_14 : Cond.static Lib.Math.abs.name ∈ gT := List.mem_filter.mpr ⟨List.mem_append_right _ (List.mem_append_right _ (List.mem_append_left _ (List.mem_of_getElem? (i := 122) rfl))), rfl⟩
theorem tw_15 : Cond.initialized "java/lang/Math" ∈ gT := List.mem_filter.mpr ⟨List.mem_append_right _ (List.mem_append_left _ (List.mem_of_getElem? (i := 12) rfl)), rfl⟩
theorem tw_16 : Cond.code Lib.Math.abs.name Lib.Math.abs.code 1 (some .int) ∈ gT := List.mem_filter.mpr ⟨List.mem_append_right _ (List.mem_append_right _ (List.mem_append_left _ (List.mem_of_getElem? (i := 123) rfl))), rfl⟩
theorem tw_17 : Cond.methodLink RX0 37 yX0_commonCheck ∈ gT := List.mem_filter.mpr ⟨List.mem_append_right _ (List.mem_append_right _ (List.mem_append_left _ (List.mem_of_getElem? (i := 108) rfl))), rfl⟩
theorem tw_18 : Cond.instanceMethod yX0_commonCheck ∈ gT := List.mem_filter.mpr ⟨List.mem_append_right _ (List.mem_append_right _ (List.mem_append_left _ (List.mem_of_getElem? (i := 109) rfl))), rfl⟩
theorem tw_19 : Cond.selects RX0 yX0_commonCheck yX0_commonCheck ∈ gT := List.mem_filter.mpr ⟨List.mem_append_right _ (List.mem_append_right _ (List.mem_append_left _ (List.mem_of_getElem? (i := 110) rfl))), rfl⟩
theorem tw_20 : Cond.initialized RX0 ∈ gT := List.mem_filter.mpr ⟨List.mem_append_right _ (List.mem_append_left _ (List.mem_of_getElem? (i := 4) rfl)), rfl⟩
theorem tw_21 : Cond.code yX0_commonCheck cX0_commonCheck 7 (some .int) ∈ gT := List.mem_filter.mpr ⟨List.mem_append_right _ (List.mem_append_right _ (List.mem_append_left _ (List.mem_of_getElem? (i := 111) rfl))), rfl⟩
theorem tw_22 : Cond.static yX4_checkOf ∈ gT := List.mem_filter.mpr ⟨List.mem_append_right _ (List.mem_append_right _ (List.mem_append_left _ (List.mem_of_getElem? (i := 113) rfl))), rfl⟩
theorem tw_23 : Cond.initialized RX4 ∈ gT := List.mem_filter.mpr ⟨List.mem_append_right _ (List.mem_append_left _ (List.mem_of_getElem? (i := 1) rfl)), rfl⟩
theorem tw_24 : Cond.code yX4_checkOf cX4_checkOf 5 (some .int) ∈ gT := List.mem_filter.mpr ⟨List.mem_append_right _ (List.mem_append_right _ (List.mem_append_left _ (List.mem_of_getElem? (i := 114) rfl))), rfl⟩
theorem tw_25 : Cond.fieldLink RX4 96 "SlotProbe$State" "readings" "[I" ∈ gT := List.mem_filter.mpr ⟨List.mem_append_right _ (List.mem_append_left _ (List.mem_of_getElem? (i := 40) rfl)), rfl⟩
theorem tw_26 : Cond.methodLink RX4 99 yX4_readingAt ∈ gT := List.mem_filter.mpr ⟨List.mem_append_right _ (List.mem_append_right _ (List.mem_append_left _ (List.mem_of_getElem? (i := 115) rfl))), rfl⟩
theorem tw_27 : Cond.static yX4_readingAt ∈ gT := List.mem_filter.mpr ⟨List.mem_append_right _ (List.mem_append_right _ (List.mem_append_left _ (List.mem_of_getElem? (i := 116) rfl))), rfl⟩
theorem tw_28 : Cond.code yX4_readingAt cX4_readingAt 4 (some .int) ∈ gT := List.mem_filter.mpr ⟨List.mem_append_right _ (List.mem_append_right _ (List.mem_append_left _ (List.mem_of_getElem? (i := 117) rfl))), rfl⟩
theorem tw_29 : Cond.static yX4_tiltAt ∈ gT := List.mem_filter.mpr ⟨List.mem_append_right _ (List.mem_append_right _ (List.mem_append_left _ (List.mem_of_getElem? (i := 119) rfl))), rfl⟩
theorem tw_30 : Cond.code yX4_tiltAt cX4_tiltAt 3 (some .int) ∈ gT := List.mem_filter.mpr ⟨List.mem_append_right _ (List.mem_append_right _ (List.mem_append_left _ (List.mem_of_getElem? (i := 120) rfl))), rfl⟩
theorem tw_31 : Cond.methodLink RX0 55 yX0_tiltRead ∈ gT := List.mem_filter.mpr ⟨List.mem_append_right _ (List.mem_append_right _ (List.mem_append_left _ (List.mem_of_getElem? (i := 124) rfl))), rfl⟩
theorem tw_32 : Cond.instanceMethod yX0_tiltRead ∈ gT := List.mem_filter.mpr ⟨List.mem_append_right _ (List.mem_append_right _ (List.mem_append_left _ (List.mem_of_getElem? (i := 125) rfl))), rfl⟩
theorem tw_33 : Cond.selects RX0 yX0_tiltRead yX0_tiltRead ∈ gT := List.mem_filter.mpr ⟨List.mem_append_right _ (List.mem_append_right _ (List.mem_append_left _ (List.mem_of_getElem? (i := 126) rfl))), rfl⟩
theorem tw_34 : Cond.code yX0_tiltRead cX0_tiltRead 12 (some .int) ∈ gT := List.mem_filter.mpr ⟨List.mem_append_right _ (List.mem_append_right _ (List.mem_append_left _ (List.mem_of_getElem? (i := 127) rfl))), rfl⟩
theorem tw_35 : Cond.fieldLink RX0 69 "SlotProbe$State" "readings" "[I" ∈ gT := List.mem_filter.mpr ⟨List.mem_append_right _ (List.mem_append_left _ (List.mem_of_getElem? (i := 39) rfl)), rfl⟩
theorem tw_36 : Cond.fieldLink RX0 62 "SlotProbe$State" "settings" "[I" ∈ gT := List.mem_filter.mpr ⟨List.mem_append_right _ (List.mem_append_left _ (List.mem_of_getElem? (i := 36) rfl)), rfl⟩
theorem tw_37 : Cond.methodLink RX0 72 yX0_isSuspicious ∈ gT := List.mem_filter.mpr ⟨List.mem_append_right _ (List.mem_append_right _ (List.mem_append_left _ (List.mem_of_getElem? (i := 129) rfl))), rfl⟩
theorem tw_38 : Cond.instanceMethod yX0_isSuspicious ∈ gT := List.mem_filter.mpr ⟨List.mem_append_right _ (List.mem_append_right _ (List.mem_append_left _ (List.mem_of_getElem? (i := 130) rfl))), rfl⟩
theorem tw_39 : Cond.selects RX0 yX0_isSuspicious yX0_isSuspicious ∈ gT := List.mem_filter.mpr ⟨List.mem_append_right _ (List.mem_append_right _ (List.mem_append_left _ (List.mem_of_getElem? (i := 131) rfl))), rfl⟩
theorem tw_40 : Cond.code yX0_isSuspicious cX0_isSuspicious 5 (some .boolean) ∈ gT := List.mem_filter.mpr ⟨List.mem_append_right _ (List.mem_append_right _ (List.mem_append_left _ (List.mem_of_getElem? (i := 132) rfl))), rfl⟩
theorem tw_41 : Cond.methodLink RX0 58 yX0_tellLevel ∈ gT := List.mem_filter.mpr ⟨List.mem_append_right _ (List.mem_append_right _ (List.mem_append_left _ (List.mem_of_getElem? (i := 133) rfl))), rfl⟩
theorem tw_42 : Cond.instanceMethod yX0_tellLevel ∈ gT := List.mem_filter.mpr ⟨List.mem_append_right _ (List.mem_append_right _ (List.mem_append_left _ (List.mem_of_getElem? (i := 134) rfl))), rfl⟩
theorem tw_43 : Cond.selects RX0 yX0_tellLevel yX0_tellLevel ∈ gT := List.mem_filter.mpr ⟨List.mem_append_right _ (List.mem_append_right _ (List.mem_append_left _ (List.mem_of_getElem? (i := 135) rfl))), rfl⟩
theorem tw_44 : Cond.code yX0_tellLevel cX0_tellLevel 7 none ∈ gT := List.mem_filter.mpr ⟨List.mem_append_right _ (List.mem_append_right _ (List.mem_append_left _ (List.mem_of_getElem? (i := 136) rfl))), rfl⟩
theorem tw_45 : Cond.fieldLink RX0 76 "SlotProbe$State" "turns" "[I" ∈ gT := List.mem_filter.mpr ⟨List.mem_append_right _ (List.mem_append_left _ (List.mem_of_getElem? (i := 32) rfl)), rfl⟩
theorem tw_46 : Cond.static yX4_turnedTilt ∈ gT := List.mem_filter.mpr ⟨List.mem_append_right _ (List.mem_append_right _ (List.mem_append_left _ (List.mem_of_getElem? (i := 98) rfl))), rfl⟩
theorem tw_47 : Cond.code yX4_turnedTilt cX4_turnedTilt 4 (some .int) ∈ gT := List.mem_filter.mpr ⟨List.mem_append_right _ (List.mem_append_right _ (List.mem_append_left _ (List.mem_of_getElem? (i := 99) rfl))), rfl⟩
theorem tw_48 : Cond.code yX1_init cX1_init 2 none ∈ gT := List.mem_filter.mpr ⟨List.mem_append_right _ (List.mem_append_left _ (List.mem_of_getElem? (i := 79) rfl)), rfl⟩
theorem tw_49 : Cond.methodLink RX1 3 objectInit ∈ gT := List.mem_filter.mpr ⟨List.mem_append_right _ (List.mem_append_left _ (List.mem_of_getElem? (i := 80) rfl)), rfl⟩
theorem tw_50 : Cond.classLink RX1 9 RX2 ∈ gT := List.mem_filter.mpr ⟨List.mem_append_right _ (List.mem_append_left _ (List.mem_of_getElem? (i := 81) rfl)), rfl⟩
theorem tw_51 : Cond.fieldLink RX1 11 "SlotProbe$History" "ring" "[LSlotProbe$State;" ∈ gT := List.mem_filter.mpr ⟨List.mem_append_right _ (List.mem_append_left _ (List.mem_of_getElem? (i := 83) rfl)), rfl⟩
theorem tw_52 : Cond.instantiable RX2 10 ∈ gT := List.mem_filter.mpr ⟨List.mem_append_right _ (List.mem_append_left _ (List.mem_of_getElem? (i := 23) rfl)), rfl⟩
theorem tw_53 : Cond.initialized RX2 ∈ gT := List.mem_filter.mpr ⟨List.mem_append_right _ (List.mem_append_left _ (List.mem_of_getElem? (i := 2) rfl)), rfl⟩
theorem tw_54 : Cond.fieldLink RX1 18 "SlotProbe$History" "oldest" "I" ∈ gT := List.mem_filter.mpr ⟨List.mem_append_right _ (List.mem_append_left _ (List.mem_of_getElem? (i := 84) rfl)), rfl⟩
theorem tw_55 : Cond.fieldLink RX1 22 "SlotProbe$History" "saved" "I" ∈ gT := List.mem_filter.mpr ⟨List.mem_append_right _ (List.mem_append_left _ (List.mem_of_getElem? (i := 85) rfl)), rfl⟩
theorem tw_56 : Cond.methodLink RX1 17 yX2_init ∈ gT := List.mem_filter.mpr ⟨List.mem_append_right _ (List.mem_append_left _ (List.mem_of_getElem? (i := 82) rfl)), rfl⟩
theorem tw_57 : Cond.instanceMethod yX2_init ∈ gT := List.mem_filter.mpr ⟨List.mem_append_right _ (List.mem_append_left _ (List.mem_of_getElem? (i := 25) rfl)), rfl⟩
theorem tw_58 : Cond.code yX2_init cX2_init 1 none ∈ gT := List.mem_filter.mpr ⟨List.mem_append_right _ (List.mem_append_left _ (List.mem_of_getElem? (i := 26) rfl)), rfl⟩
theorem tw_59 : Cond.methodLink RX2 3 objectInit ∈ gT := List.mem_filter.mpr ⟨List.mem_append_right _ (List.mem_append_left _ (List.mem_of_getElem? (i := 27) rfl)), rfl⟩
theorem tw_60 : Cond.fieldLink RX2 9 "SlotProbe$State" "tilts" "[I" ∈ gT := List.mem_filter.mpr ⟨List.mem_append_right _ (List.mem_append_left _ (List.mem_of_getElem? (i := 28) rfl)), rfl⟩
theorem tw_61 : Cond.fieldLink RX2 15 "SlotProbe$State" "turns" "[I" ∈ gT := List.mem_filter.mpr ⟨List.mem_append_right _ (List.mem_append_left _ (List.mem_of_getElem? (i := 30) rfl)), rfl⟩
theorem tw_62 : Cond.fieldLink RX2 18 "SlotProbe$State" "biases" "[I" ∈ gT := List.mem_filter.mpr ⟨List.mem_append_right _ (List.mem_append_left _ (List.mem_of_getElem? (i := 33) rfl)), rfl⟩
theorem tw_63 : Cond.fieldLink RX2 21 "SlotProbe$State" "settings" "[I" ∈ gT := List.mem_filter.mpr ⟨List.mem_append_right _ (List.mem_append_left _ (List.mem_of_getElem? (i := 35) rfl)), rfl⟩
theorem tw_64 : Cond.fieldLink RX2 24 "SlotProbe$State" "readings" "[I" ∈ gT := List.mem_filter.mpr ⟨List.mem_append_right _ (List.mem_append_left _ (List.mem_of_getElem? (i := 38) rfl)), rfl⟩
theorem tw_65 : Cond.fieldLink RX2 27 "SlotProbe$State" "days" "[I" ∈ gT := List.mem_filter.mpr ⟨List.mem_append_right _ (List.mem_append_left _ (List.mem_of_getElem? (i := 41) rfl)), rfl⟩
theorem tw_66 : Cond.fieldLink RX2 30 "SlotProbe$State" "day" "I" ∈ gT := List.mem_filter.mpr ⟨List.mem_append_right _ (List.mem_append_left _ (List.mem_of_getElem? (i := 43) rfl)), rfl⟩
theorem tw_67 : Cond.fieldLink RX2 34 "SlotProbe$State" "surveys" "I" ∈ gT := List.mem_filter.mpr ⟨List.mem_append_right _ (List.mem_append_left _ (List.mem_of_getElem? (i := 45) rfl)), rfl⟩
theorem tw_68 : Cond.fieldLink RX2 37 "SlotProbe$State" "surveysTaken" "I" ∈ gT := List.mem_filter.mpr ⟨List.mem_append_right _ (List.mem_append_left _ (List.mem_of_getElem? (i := 48) rfl)), rfl⟩
theorem tw_69 : Cond.fieldLink RX2 40 "SlotProbe$State" "readingsSpoiled" "I" ∈ gT := List.mem_filter.mpr ⟨List.mem_append_right _ (List.mem_append_left _ (List.mem_of_getElem? (i := 50) rfl)), rfl⟩
theorem tw_70 : Cond.code yX1_save cX1_save 2 none ∈ gT := List.mem_filter.mpr ⟨List.mem_append_right _ (List.mem_append_right _ (List.mem_append_left _ (List.mem_of_getElem? (i := 172) rfl))), rfl⟩
theorem tw_71 : Cond.methodLink RX1 25 yX2_become ∈ gT := List.mem_filter.mpr ⟨List.mem_append_right _ (List.mem_append_right _ (List.mem_append_left _ (List.mem_of_getElem? (i := 48) rfl))), rfl⟩
theorem tw_72 : Cond.instanceMethod yX2_become ∈ gT := List.mem_filter.mpr ⟨List.mem_append_right _ (List.mem_append_right _ (List.mem_append_left _ (List.mem_of_getElem? (i := 15) rfl))), rfl⟩
theorem tw_73 : Cond.selects RX2 yX2_become yX2_become ∈ gT := List.mem_filter.mpr ⟨List.mem_append_right _ (List.mem_append_right _ (List.mem_append_left _ (List.mem_of_getElem? (i := 16) rfl))), rfl⟩
theorem tw_74 : Cond.code yX2_become cX2_become 2 none ∈ gT := List.mem_filter.mpr ⟨List.mem_append_right _ (List.mem_append_right _ (List.mem_append_left _ (List.mem_of_getElem? (i := 17) rfl))), rfl⟩
theorem tw_75 : Cond.methodLink RX2 43 arraycopyName ∈ gT := List.mem_filter.mpr ⟨List.mem_append_right _ (List.mem_append_right _ (List.mem_append_left _ (List.mem_of_getElem? (i := 18) rfl))), rfl⟩
theorem tw_76 : Cond.native arraycopyName ∈ gT := List.mem_filter.mpr ⟨List.mem_append_right _ (List.mem_append_right _ (List.mem_append_left _ (List.mem_of_getElem? (i := 20) rfl))), rfl⟩
theorem tw_77 : Cond.static arraycopyName ∈ gT := List.mem_filter.mpr ⟨List.mem_append_right _ (List.mem_append_right _ (List.mem_append_left _ (List.mem_of_getElem? (i := 19) rfl))), rfl⟩
theorem tw_78 : Cond.initialized "java/lang/System" ∈ gT := List.mem_filter.mpr ⟨List.mem_append_right _ (List.mem_append_left _ (List.mem_of_getElem? (i := 10) rfl)), rfl⟩
theorem tw_79 : Cond.code yX1_bringBack cX1_bringBack 2 none ∈ gT := List.mem_filter.mpr ⟨List.mem_append_right _ (List.mem_append_right _ (List.mem_append_left _ (List.mem_of_getElem? (i := 47) rfl))), rfl⟩
theorem tw_80 : Cond.code yX3_init cX3_init 1 none ∈ gT := List.mem_filter.mpr ⟨List.mem_append_right _ (List.mem_append_left _ (List.mem_of_getElem? (i := 129) rfl)), rfl⟩
theorem tw_81 : Cond.methodLink RX3 3 objectInit ∈ gT := List.mem_filter.mpr ⟨List.mem_append_right _ (List.mem_append_left _ (List.mem_of_getElem? (i := 130) rfl)), rfl⟩
theorem tw_82 : Cond.fieldLink RX3 11 "SlotProbe$TextReader" "step" "I" ∈ gT := List.mem_filter.mpr ⟨List.mem_append_right _ (List.mem_append_left _ (List.mem_of_getElem? (i := 131) rfl)), rfl⟩
theorem tw_83 : Cond.fieldLink RX3 15 "SlotProbe$TextReader" "level" "I" ∈ gT := List.mem_filter.mpr ⟨List.mem_append_right _ (List.mem_append_left _ (List.mem_of_getElem? (i := 132) rfl)), rfl⟩
theorem tw_84 : Cond.fieldLink RX3 18 "SlotProbe$TextReader" "own" "I" ∈ gT := List.mem_filter.mpr ⟨List.mem_append_right _ (List.mem_append_left _ (List.mem_of_getElem? (i := 133) rfl)), rfl⟩
theorem tw_85 : Cond.fieldLink RX3 21 "SlotProbe$TextReader" "face" "I" ∈ gT := List.mem_filter.mpr ⟨List.mem_append_right _ (List.mem_append_left _ (List.mem_of_getElem? (i := 134) rfl)), rfl⟩
theorem tw_86 : Cond.fieldLink RX3 24 "SlotProbe$TextReader" "number" "I" ∈ gT := List.mem_filter.mpr ⟨List.mem_append_right _ (List.mem_append_left _ (List.mem_of_getElem? (i := 135) rfl)), rfl⟩
theorem tw_87 : Cond.fieldLink RX3 27 "SlotProbe$TextReader" "below" "Z" ∈ gT := List.mem_filter.mpr ⟨List.mem_append_right _ (List.mem_append_left _ (List.mem_of_getElem? (i := 136) rfl)), rfl⟩
theorem tw_88 : Cond.code yX4_init cX4_init 2 none ∈ gT := List.mem_filter.mpr ⟨List.mem_append_right _ (List.mem_append_left _ (List.mem_of_getElem? (i := 18) rfl)), rfl⟩
theorem tw_89 : Cond.methodLink RX4 3 objectInit ∈ gT := List.mem_filter.mpr ⟨List.mem_append_right _ (List.mem_append_left _ (List.mem_of_getElem? (i := 19) rfl)), rfl⟩
theorem tw_90 : Cond.classLink RX4 9 RX2 ∈ gT := List.mem_filter.mpr ⟨List.mem_append_right _ (List.mem_append_left _ (List.mem_of_getElem? (i := 22) rfl)), rfl⟩
theorem tw_91 : Cond.fieldLink RX4 12 "SlotProbe" "now" "LSlotProbe$State;" ∈ gT := List.mem_filter.mpr ⟨List.mem_append_right _ (List.mem_append_left _ (List.mem_of_getElem? (i := 150) rfl)), rfl⟩
theorem tw_92 : Cond.fieldLink RX4 16 "SlotProbe" "slots" "[LSlotProbe$State;" ∈ gT := List.mem_filter.mpr ⟨List.mem_append_right _ (List.mem_append_left _ (List.mem_of_getElem? (i := 151) rfl)), rfl⟩
theorem tw_93 : Cond.arrayClass .boolean ∈ gT := List.mem_filter.mpr ⟨List.mem_append_right _ (List.mem_append_left _ (List.mem_of_getElem? (i := 94) rfl)), rfl⟩
theorem tw_94 : Cond.fieldLink RX4 20 "SlotProbe" "slotHolds" "[Z" ∈ gT := List.mem_filter.mpr ⟨List.mem_append_right _ (List.mem_append_left _ (List.mem_of_getElem? (i := 152) rfl)), rfl⟩
theorem tw_95 : Cond.classLink RX4 24 RX1 ∈ gT := List.mem_filter.mpr ⟨List.mem_append_right _ (List.mem_append_left _ (List.mem_of_getElem? (i := 75) rfl)), rfl⟩
theorem tw_96 : Cond.instantiable RX1 3 ∈ gT := List.mem_filter.mpr ⟨List.mem_append_right _ (List.mem_append_left _ (List.mem_of_getElem? (i := 76) rfl)), rfl⟩
theorem tw_97 : Cond.initialized RX1 ∈ gT := List.mem_filter.mpr ⟨List.mem_append_right _ (List.mem_append_left _ (List.mem_of_getElem? (i := 3) rfl)), rfl⟩
theorem tw_98 : Cond.fieldLink RX4 27 "SlotProbe" "history" "LSlotProbe$History;" ∈ gT := List.mem_filter.mpr ⟨List.mem_append_right _ (List.mem_append_left _ (List.mem_of_getElem? (i := 153) rfl)), rfl⟩
theorem tw_99 : Cond.classLink RX4 31 RX0 ∈ gT := List.mem_filter.mpr ⟨List.mem_append_right _ (List.mem_append_left _ (List.mem_of_getElem? (i := 95) rfl)), rfl⟩
theorem tw_100 : Cond.instantiable RX0 6 ∈ gT := List.mem_filter.mpr ⟨List.mem_append_right _ (List.mem_append_left _ (List.mem_of_getElem? (i := 96) rfl)), rfl⟩
theorem tw_101 : Cond.fieldLink RX4 34 "SlotProbe" "findings" "LSlotProbe$Findings;" ∈ gT := List.mem_filter.mpr ⟨List.mem_append_right _ (List.mem_append_left _ (List.mem_of_getElem? (i := 154) rfl)), rfl⟩
theorem tw_102 : Cond.classLink RX4 38 RX3 ∈ gT := List.mem_filter.mpr ⟨List.mem_append_right _ (List.mem_append_left _ (List.mem_of_getElem? (i := 125) rfl)), rfl⟩
theorem tw_103 : Cond.instantiable RX3 6 ∈ gT := List.mem_filter.mpr ⟨List.mem_append_right _ (List.mem_append_left _ (List.mem_of_getElem? (i := 126) rfl)), rfl⟩
theorem tw_104 : Cond.initialized RX3 ∈ gT := List.mem_filter.mpr ⟨List.mem_append_right _ (List.mem_append_left _ (List.mem_of_getElem? (i := 5) rfl)), rfl⟩
theorem tw_105 : Cond.fieldLink RX4 41 "SlotProbe" "reader" "LSlotProbe$TextReader;" ∈ gT := List.mem_filter.mpr ⟨List.mem_append_right _ (List.mem_append_left _ (List.mem_of_getElem? (i := 155) rfl)), rfl⟩
theorem tw_106 : Cond.arrayClass .char ∈ gT := List.mem_filter.mpr ⟨List.mem_append_right _ (List.mem_append_left _ (List.mem_of_getElem? (i := 175) rfl)), rfl⟩
theorem tw_107 : Cond.fieldLink RX4 45 "SlotProbe" "buffer" "[C" ∈ gT := List.mem_filter.mpr ⟨List.mem_append_right _ (List.mem_append_left _ (List.mem_of_getElem? (i := 156) rfl)), rfl⟩
theorem tw_108 : Cond.fieldLink RX4 49 "SlotProbe" "bufferLength" "I" ∈ gT := List.mem_filter.mpr ⟨List.mem_append_right _ (List.mem_append_left _ (List.mem_of_getElem? (i := 157) rfl)), rfl⟩
theorem tw_109 : Cond.methodLink RX4 11 yX2_init ∈ gT := List.mem_filter.mpr ⟨List.mem_append_right _ (List.mem_append_left _ (List.mem_of_getElem? (i := 24) rfl)), rfl⟩
theorem tw_110 : Cond.methodLink RX4 26 yX1_init ∈ gT := List.mem_filter.mpr ⟨List.mem_append_right _ (List.mem_append_left _ (List.mem_of_getElem? (i := 77) rfl)), rfl⟩
theorem tw_111 : Cond.instanceMethod yX1_init ∈ gT := List.mem_filter.mpr ⟨List.mem_append_right _ (List.mem_append_left _ (List.mem_of_getElem? (i := 78) rfl)), rfl⟩
theorem tw_112 : Cond.methodLink RX4 33 yX0_init ∈ gT := List.mem_filter.mpr ⟨List.mem_append_right _ (List.mem_append_left _ (List.mem_of_getElem? (i := 97) rfl)), rfl⟩
theorem tw_113 : Cond.instanceMethod yX0_init ∈ gT := List.mem_filter.mpr ⟨List.mem_append_right _ (List.mem_append_left _ (List.mem_of_getElem? (i := 98) rfl)), rfl⟩
theorem tw_114 : Cond.methodLink RX4 40 yX3_init ∈ gT := List.mem_filter.mpr ⟨List.mem_append_right _ (List.mem_append_left _ (List.mem_of_getElem? (i := 127) rfl)), rfl⟩
theorem tw_115 : Cond.instanceMethod yX3_init ∈ gT := List.mem_filter.mpr ⟨List.mem_append_right _ (List.mem_append_left _ (List.mem_of_getElem? (i := 128) rfl)), rfl⟩
theorem tw_116 : Cond.code yX4_bend cX4_bend 5 (some .int) ∈ gT := List.mem_filter.mpr ⟨List.mem_append_right _ (List.mem_append_right _ (List.mem_append_left _ (List.mem_of_getElem? (i := 164) rfl))), rfl⟩
theorem tw_117 : Cond.fieldLink RX4 64 "SlotProbe$State" "tilts" "[I" ∈ gT := List.mem_filter.mpr ⟨List.mem_append_right _ (List.mem_append_left _ (List.mem_of_getElem? (i := 29) rfl)), rfl⟩
theorem tw_118 : Cond.methodLink RX4 53 yX4_needIndex ∈ gT := List.mem_filter.mpr ⟨List.mem_append_right _ (List.mem_append_right _ (List.mem_append_left _ (List.mem_of_getElem? (i := 74) rfl))), rfl⟩
theorem tw_119 : Cond.static yX4_needIndex ∈ gT := List.mem_filter.mpr ⟨List.mem_append_right _ (List.mem_append_right _ (List.mem_append_left _ (List.mem_of_getElem? (i := 75) rfl))), rfl⟩
theorem tw_120 : Cond.code yX4_needIndex cX4_needIndex 2 none ∈ gT := List.mem_filter.mpr ⟨List.mem_append_right _ (List.mem_append_right _ (List.mem_append_left _ (List.mem_of_getElem? (i := 76) rfl))), rfl⟩
theorem tw_121 : Cond.classLink RX4 233 "java/lang/IndexOutOfBoundsException" ∈ gT := List.mem_filter.mpr ⟨List.mem_append_right _ (List.mem_append_right _ (List.mem_append_left _ (List.mem_of_getElem? (i := 77) rfl))), rfl⟩
theorem tw_122 : Cond.initialized "java/lang/IndexOutOfBoundsException" ∈ gT := List.mem_filter.mpr ⟨List.mem_append_right _ (List.mem_append_left _ (List.mem_of_getElem? (i := 11) rfl)), rfl⟩
theorem tw_123 : Cond.methodLink RX4 57 yX4_needRange ∈ gT := List.mem_filter.mpr ⟨List.mem_append_right _ (List.mem_append_left _ (List.mem_of_getElem? (i := 180) rfl)), rfl⟩
theorem tw_124 : Cond.static yX4_needRange ∈ gT := List.mem_filter.mpr ⟨List.mem_append_right _ (List.mem_append_left _ (List.mem_of_getElem? (i := 181) rfl)), rfl⟩
theorem tw_125 : Cond.code yX4_needRange cX4_needRange 3 none ∈ gT := List.mem_filter.mpr ⟨List.mem_append_right _ (List.mem_append_left _ (List.mem_of_getElem? (i := 182) rfl)), rfl⟩
theorem tw_126 : Cond.classLink RX4 240 "java/lang/IllegalArgumentException" ∈ gT := List.mem_filter.mpr ⟨List.mem_append_right _ (List.mem_append_left _ (List.mem_of_getElem? (i := 186) rfl)), rfl⟩
theorem tw_127 : Cond.initialized "java/lang/IllegalArgumentException" ∈ gT := List.mem_filter.mpr ⟨List.mem_append_right _ (List.mem_append_left _ (List.mem_of_getElem? (i := 9) rfl)), rfl⟩
theorem tw_128 : Cond.methodLink RX4 113 yX4_isWithin ∈ gT := List.mem_filter.mpr ⟨List.mem_append_right _ (List.mem_append_left _ (List.mem_of_getElem? (i := 183) rfl)), rfl⟩
theorem tw_129 : Cond.static yX4_isWithin ∈ gT := List.mem_filter.mpr ⟨List.mem_append_right _ (List.mem_append_left _ (List.mem_of_getElem? (i := 184) rfl)), rfl⟩
theorem tw_130 : Cond.code yX4_isWithin cX4_isWithin 3 (some .boolean) ∈ gT := List.mem_filter.mpr ⟨List.mem_append_right _ (List.mem_append_left _ (List.mem_of_getElem? (i := 185) rfl)), rfl⟩
theorem tw_131 : Cond.methodLink RX4 61 yX4_beginChange ∈ gT := List.mem_filter.mpr ⟨List.mem_append_right _ (List.mem_append_right _ (List.mem_append_left _ (List.mem_of_getElem? (i := 165) rfl))), rfl⟩
theorem tw_132 : Cond.instanceMethod yX4_beginChange ∈ gT := List.mem_filter.mpr ⟨List.mem_append_right _ (List.mem_append_right _ (List.mem_append_left _ (List.mem_of_getElem? (i := 167) rfl))), rfl⟩
theorem tw_133 : Cond.selects RX4 yX4_beginChange yX4_beginChange ∈ gT := List.mem_filter.mpr ⟨List.mem_append_left _ (List.mem_of_getElem? (i := 5) rfl), rfl⟩
theorem tw_134 : Cond.code yX4_beginChange cX4_beginChange 1 none ∈ gT := List.mem_filter.mpr ⟨List.mem_append_right _ (List.mem_append_right _ (List.mem_append_left _ (List.mem_of_getElem? (i := 168) rfl))), rfl⟩
theorem tw_135 : Cond.fieldLink RX4 148 "SlotProbe$Findings" "fresh" "Z" ∈ gT := List.mem_filter.mpr ⟨List.mem_append_right _ (List.mem_append_left _ (List.mem_of_getElem? (i := 111) rfl)), rfl⟩
theorem tw_136 : Cond.methodLink RX4 252 yX1_save ∈ gT := List.mem_filter.mpr ⟨List.mem_append_right _ (List.mem_append_right _ (List.mem_append_left _ (List.mem_of_getElem? (i := 169) rfl))), rfl⟩
theorem tw_137 : Cond.instanceMethod yX1_save ∈ gT := List.mem_filter.mpr ⟨List.mem_append_right _ (List.mem_append_right _ (List.mem_append_left _ (List.mem_of_getElem? (i := 170) rfl))), rfl⟩
theorem tw_138 : Cond.selects RX1 yX1_save yX1_save ∈ gT := List.mem_filter.mpr ⟨List.mem_append_right _ (List.mem_append_right _ (List.mem_append_left _ (List.mem_of_getElem? (i := 171) rfl))), rfl⟩
theorem tw_139 : Cond.code yX4_slide cX4_slide 6 (some .int) ∈ gT := List.mem_filter.mpr ⟨List.mem_append_right _ (List.mem_append_right _ (List.mem_append_left _ (List.mem_of_getElem? (i := 176) rfl))), rfl⟩
theorem tw_140 : Cond.methodLink RX4 68 Lib.Math.min.name ∈ gT := List.mem_filter.mpr ⟨List.mem_append_right _ (List.mem_append_right _ (List.mem_append_left _ (List.mem_of_getElem? (i := 177) rfl))), rfl⟩
theorem tw_141 : Cond.static Lib.Math.min.name ∈ gT := List.mem_filter.mpr ⟨List.mem_append_right _ (List.mem_append_right _ (List.mem_append_left _ (List.mem_of_getElem? (i := 178) rfl))), rfl⟩
theorem tw_142 : Cond.code Lib.Math.min.name Lib.Math.min.code 2 (some .int) ∈ gT := List.mem_filter.mpr ⟨List.mem_append_right _ (List.mem_append_right _ (List.mem_append_left _ (List.mem_of_getElem? (i := 179) rfl))), rfl⟩
theorem tw_143 : Cond.methodLink RX4 74 Lib.Math.max.name ∈ gT := List.mem_filter.mpr ⟨List.mem_append_right _ (List.mem_append_right _ (List.mem_append_left _ (List.mem_of_getElem? (i := 180) rfl))), rfl⟩
theorem tw_144 : Cond.static Lib.Math.max.name ∈ gT := List.mem_filter.mpr ⟨List.mem_append_right _ (List.mem_append_right _ (List.mem_append_left _ (List.mem_of_getElem? (i := 181) rfl))), rfl⟩
theorem tw_145 : Cond.code Lib.Math.max.name Lib.Math.max.code 2 (some .int) ∈ gT := List.mem_filter.mpr ⟨List.mem_append_right _ (List.mem_append_right _ (List.mem_append_left _ (List.mem_of_getElem? (i := 182) rfl))), rfl⟩
theorem tw_146 : Cond.code yX4_turn cX4_turn 4 (some .int) ∈ gT := List.mem_filter.mpr ⟨List.mem_append_right _ (List.mem_append_right _ (List.mem_append_left _ (List.mem_of_getElem? (i := 186) rfl))), rfl⟩
theorem tw_147 : Cond.fieldLink RX4 77 "SlotProbe$State" "turns" "[I" ∈ gT := List.mem_filter.mpr ⟨List.mem_append_right _ (List.mem_append_left _ (List.mem_of_getElem? (i := 31) rfl)), rfl⟩
theorem tw_148 : Cond.code yX4_bias cX4_bias 4 (some .int) ∈ gT := List.mem_filter.mpr ⟨List.mem_append_right _ (List.mem_append_right _ (List.mem_append_left _ (List.mem_of_getElem? (i := 190) rfl))), rfl⟩
theorem tw_149 : Cond.fieldLink RX4 80 "SlotProbe$State" "biases" "[I" ∈ gT := List.mem_filter.mpr ⟨List.mem_append_right _ (List.mem_append_left _ (List.mem_of_getElem? (i := 34) rfl)), rfl⟩
theorem tw_150 : Cond.code yX4_set cX4_set 4 (some .int) ∈ gT := List.mem_filter.mpr ⟨List.mem_append_right _ (List.mem_append_right _ (List.mem_append_left _ (List.mem_of_getElem? (i := 194) rfl))), rfl⟩
theorem tw_151 : Cond.fieldLink RX4 83 "SlotProbe$State" "settings" "[I" ∈ gT := List.mem_filter.mpr ⟨List.mem_append_right _ (List.mem_append_left _ (List.mem_of_getElem? (i := 37) rfl)), rfl⟩
theorem tw_152 : Cond.code yX4_pass cX4_pass 2 (some .int) ∈ gT := List.mem_filter.mpr ⟨List.mem_append_right _ (List.mem_append_right _ (List.mem_append_left _ (List.mem_of_getElem? (i := 198) rfl))), rfl⟩
theorem tw_153 : Cond.fieldLink RX4 86 "SlotProbe$State" "day" "I" ∈ gT := List.mem_filter.mpr ⟨List.mem_append_right _ (List.mem_append_left _ (List.mem_of_getElem? (i := 44) rfl)), rfl⟩
theorem tw_154 : Cond.methodLink RX4 89 yX4_needState ∈ gT := List.mem_filter.mpr ⟨List.mem_append_right _ (List.mem_append_right _ (List.mem_append_left _ (List.mem_of_getElem? (i := 25) rfl))), rfl⟩
theorem tw_155 : Cond.static yX4_needState ∈ gT := List.mem_filter.mpr ⟨List.mem_append_right _ (List.mem_append_right _ (List.mem_append_left _ (List.mem_of_getElem? (i := 26) rfl))), rfl⟩
theorem tw_156 : Cond.code yX4_needState cX4_needState 1 none ∈ gT := List.mem_filter.mpr ⟨List.mem_append_right _ (List.mem_append_right _ (List.mem_append_left _ (List.mem_of_getElem? (i := 27) rfl))), rfl⟩
theorem tw_157 : Cond.classLink RX4 247 "java/lang/IllegalStateException" ∈ gT := List.mem_filter.mpr ⟨List.mem_append_right _ (List.mem_append_right _ (List.mem_append_left _ (List.mem_of_getElem? (i := 28) rfl))), rfl⟩
theorem tw_158 : Cond.initialized "java/lang/IllegalStateException" ∈ gT := List.mem_filter.mpr ⟨List.mem_append_right _ (List.mem_append_left _ (List.mem_of_getElem? (i := 13) rfl)), rfl⟩
theorem tw_159 : Cond.code yX4_survey cX4_survey 5 (some .int) ∈ gT := List.mem_filter.mpr ⟨List.mem_append_right _ (List.mem_append_right _ (List.mem_append_left _ (List.mem_of_getElem? (i := 206) rfl))), rfl⟩
theorem tw_160 : Cond.fieldLink RX4 93 "SlotProbe$State" "surveys" "I" ∈ gT := List.mem_filter.mpr ⟨List.mem_append_right _ (List.mem_append_left _ (List.mem_of_getElem? (i := 47) rfl)), rfl⟩
theorem tw_161 : Cond.fieldLink RX4 107 "SlotProbe$State" "days" "[I" ∈ gT := List.mem_filter.mpr ⟨List.mem_append_right _ (List.mem_append_left _ (List.mem_of_getElem? (i := 42) rfl)), rfl⟩
theorem tw_162 : Cond.fieldLink RX4 110 "SlotProbe$State" "surveysTaken" "I" ∈ gT := List.mem_filter.mpr ⟨List.mem_append_right _ (List.mem_append_left _ (List.mem_of_getElem? (i := 49) rfl)), rfl⟩
theorem tw_163 : Cond.methodLink RX4 103 yX4_probeReads ∈ gT := List.mem_filter.mpr ⟨List.mem_append_right _ (List.mem_append_right _ (List.mem_append_left _ (List.mem_of_getElem? (i := 93) rfl))), rfl⟩
theorem tw_164 : Cond.instanceMethod yX4_probeReads ∈ gT := List.mem_filter.mpr ⟨List.mem_append_right _ (List.mem_append_right _ (List.mem_append_left _ (List.mem_of_getElem? (i := 95) rfl))), rfl⟩
theorem tw_165 : Cond.selects RX4 yX4_probeReads yX4_probeReads ∈ gT := List.mem_filter.mpr ⟨List.mem_append_left _ (List.mem_of_getElem? (i := 2) rfl), rfl⟩
theorem tw_166 : Cond.code yX4_probeReads cX4_probeReads 6 (some .int) ∈ gT := List.mem_filter.mpr ⟨List.mem_append_right _ (List.mem_append_right _ (List.mem_append_left _ (List.mem_of_getElem? (i := 96) rfl))), rfl⟩
theorem tw_167 : Cond.methodLink RX4 255 yX4_turnedTilt ∈ gT := List.mem_filter.mpr ⟨List.mem_append_right _ (List.mem_append_right _ (List.mem_append_left _ (List.mem_of_getElem? (i := 97) rfl))), rfl⟩
theorem tw_168 : Cond.code yX4_drop cX4_drop 1 (some .int) ∈ gT := List.mem_filter.mpr ⟨List.mem_append_right _ (List.mem_append_right _ (List.mem_append_left _ (List.mem_of_getElem? (i := 202) rfl))), rfl⟩
theorem tw_169 : Cond.code yX4_spoil cX4_spoil 7 (some .int) ∈ gT := List.mem_filter.mpr ⟨List.mem_append_right _ (List.mem_append_right _ (List.mem_append_left _ (List.mem_of_getElem? (i := 214) rfl))), rfl⟩
theorem tw_170 : Cond.fieldLink RX4 117 "SlotProbe$State" "readingsSpoiled" "I" ∈ gT := List.mem_filter.mpr ⟨List.mem_append_right _ (List.mem_append_left _ (List.mem_of_getElem? (i := 51) rfl)), rfl⟩
theorem tw_171 : Cond.code yX4_keep cX4_keep 2 (some .int) ∈ gT := List.mem_filter.mpr ⟨List.mem_append_right _ (List.mem_append_left _ (List.mem_of_getElem? (i := 179) rfl)), rfl⟩
theorem tw_172 : Cond.methodLink RX4 138 yX2_become ∈ gT := List.mem_filter.mpr ⟨List.mem_append_right _ (List.mem_append_right _ (List.mem_append_left _ (List.mem_of_getElem? (i := 14) rfl))), rfl⟩
theorem tw_173 : Cond.code yX4_goBack cX4_goBack 2 (some .int) ∈ gT := List.mem_filter.mpr ⟨List.mem_append_right _ (List.mem_append_right _ (List.mem_append_left _ (List.mem_of_getElem? (i := 210) rfl))), rfl⟩
theorem tw_174 : Cond.code yX4_undo cX4_undo 1 (some .int) ∈ gT := List.mem_filter.mpr ⟨List.mem_append_right _ (List.mem_append_right _ (List.mem_append_left _ (List.mem_of_getElem? (i := 24) rfl))), rfl⟩
theorem tw_175 : Cond.fieldLink RX4 142 "SlotProbe$History" "saved" "I" ∈ gT := List.mem_filter.mpr ⟨List.mem_append_right _ (List.mem_append_left _ (List.mem_of_getElem? (i := 86) rfl)), rfl⟩
theorem tw_176 : Cond.methodLink RX4 145 yX1_bringBack ∈ gT := List.mem_filter.mpr ⟨List.mem_append_right _ (List.mem_append_right _ (List.mem_append_left _ (List.mem_of_getElem? (i := 44) rfl))), rfl⟩
theorem tw_177 : Cond.instanceMethod yX1_bringBack ∈ gT := List.mem_filter.mpr ⟨List.mem_append_right _ (List.mem_append_right _ (List.mem_append_left _ (List.mem_of_getElem? (i := 45) rfl))), rfl⟩
theorem tw_178 : Cond.selects RX1 yX1_bringBack yX1_bringBack ∈ gT := List.mem_filter.mpr ⟨List.mem_append_right _ (List.mem_append_right _ (List.mem_append_left _ (List.mem_of_getElem? (i := 46) rfl))), rfl⟩
theorem tw_179 : Cond.code yX4_levelOf cX4_levelOf 3 (some .int) ∈ gT := List.mem_filter.mpr ⟨List.mem_append_right _ (List.mem_append_right _ (List.mem_append_left _ (List.mem_of_getElem? (i := 73) rfl))), rfl⟩
theorem tw_180 : Cond.code yX4_reading cX4_reading 5 (some .int) ∈ gT := List.mem_filter.mpr ⟨List.mem_append_right _ (List.mem_append_right _ (List.mem_append_left _ (List.mem_of_getElem? (i := 151) rfl))), rfl⟩
theorem tw_181 : Cond.fieldLink RX4 163 "SlotProbe$Findings" "read" "[I" ∈ gT := List.mem_filter.mpr ⟨List.mem_append_right _ (List.mem_append_left _ (List.mem_of_getElem? (i := 106) rfl)), rfl⟩
theorem tw_182 : Cond.fieldLink RX4 169 "SlotProbe$Findings" "told" "[I" ∈ gT := List.mem_filter.mpr ⟨List.mem_append_right _ (List.mem_append_left _ (List.mem_of_getElem? (i := 108) rfl)), rfl⟩
theorem tw_183 : Cond.methodLink RX4 152 yX0_workOut ∈ gT := List.mem_filter.mpr ⟨List.mem_append_right _ (List.mem_append_right _ (List.mem_append_left _ (List.mem_of_getElem? (i := 104) rfl))), rfl⟩
theorem tw_184 : Cond.instanceMethod yX0_workOut ∈ gT := List.mem_filter.mpr ⟨List.mem_append_right _ (List.mem_append_right _ (List.mem_append_left _ (List.mem_of_getElem? (i := 105) rfl))), rfl⟩
theorem tw_185 : Cond.selects RX0 yX0_workOut yX0_workOut ∈ gT := List.mem_filter.mpr ⟨List.mem_append_right _ (List.mem_append_right _ (List.mem_append_left _ (List.mem_of_getElem? (i := 106) rfl))), rfl⟩
theorem tw_186 : Cond.methodLink RX4 155 yX4_checkOf ∈ gT := List.mem_filter.mpr ⟨List.mem_append_right _ (List.mem_append_right _ (List.mem_append_left _ (List.mem_of_getElem? (i := 152) rfl))), rfl⟩
theorem tw_187 : Cond.methodLink RX4 159 yX0_isSuspicious ∈ gT := List.mem_filter.mpr ⟨List.mem_append_right _ (List.mem_append_right _ (List.mem_append_left _ (List.mem_of_getElem? (i := 142) rfl))), rfl⟩
theorem tw_188 : Cond.methodLink RX4 166 yX4_tiltAt ∈ gT := List.mem_filter.mpr ⟨List.mem_append_right _ (List.mem_append_right _ (List.mem_append_left _ (List.mem_of_getElem? (i := 147) rfl))), rfl⟩
theorem tw_189 : Cond.code yX4_surveyOf cX4_surveyOf 3 (some .int) ∈ gT := List.mem_filter.mpr ⟨List.mem_append_right _ (List.mem_append_right _ (List.mem_append_left _ (List.mem_of_getElem? (i := 103) rfl))), rfl⟩
theorem tw_190 : Cond.fieldLink RX4 172 "SlotProbe$Findings" "commons" "[I" ∈ gT := List.mem_filter.mpr ⟨List.mem_append_right _ (List.mem_append_left _ (List.mem_of_getElem? (i := 102) rfl)), rfl⟩
theorem tw_191 : Cond.methodLink RX4 175 yX4_suspiciousTilts ∈ gT := List.mem_filter.mpr ⟨List.mem_append_right _ (List.mem_append_right _ (List.mem_append_left _ (List.mem_of_getElem? (i := 138) rfl))), rfl⟩
theorem tw_192 : Cond.instanceMethod yX4_suspiciousTilts ∈ gT := List.mem_filter.mpr ⟨List.mem_append_right _ (List.mem_append_right _ (List.mem_append_left _ (List.mem_of_getElem? (i := 140) rfl))), rfl⟩
theorem tw_193 : Cond.selects RX4 yX4_suspiciousTilts yX4_suspiciousTilts ∈ gT := List.mem_filter.mpr ⟨List.mem_append_left _ (List.mem_of_getElem? (i := 3) rfl), rfl⟩
theorem tw_194 : Cond.code yX4_suspiciousTilts cX4_suspiciousTilts 5 (some .int) ∈ gT := List.mem_filter.mpr ⟨List.mem_append_right _ (List.mem_append_right _ (List.mem_append_left _ (List.mem_of_getElem? (i := 141) rfl))), rfl⟩
theorem tw_195 : Cond.methodLink RX4 178 yX4_levelFarthestOff ∈ gT := List.mem_filter.mpr ⟨List.mem_append_right _ (List.mem_append_right _ (List.mem_append_left _ (List.mem_of_getElem? (i := 143) rfl))), rfl⟩
theorem tw_196 : Cond.instanceMethod yX4_levelFarthestOff ∈ gT := List.mem_filter.mpr ⟨List.mem_append_right _ (List.mem_append_right _ (List.mem_append_left _ (List.mem_of_getElem? (i := 145) rfl))), rfl⟩
theorem tw_197 : Cond.selects RX4 yX4_levelFarthestOff yX4_levelFarthestOff ∈ gT := List.mem_filter.mpr ⟨List.mem_append_left _ (List.mem_of_getElem? (i := 4) rfl), rfl⟩
theorem tw_198 : Cond.code yX4_levelFarthestOff cX4_levelFarthestOff 7 (some .int) ∈ gT := List.mem_filter.mpr ⟨List.mem_append_right _ (List.mem_append_right _ (List.mem_append_left _ (List.mem_of_getElem? (i := 146) rfl))), rfl⟩
theorem tw_199 : Cond.fieldLink RX4 258 "SlotProbe$Findings" "off" "[I" ∈ gT := List.mem_filter.mpr ⟨List.mem_append_right _ (List.mem_append_left _ (List.mem_of_getElem? (i := 104) rfl)), rfl⟩
theorem tw_200 : Cond.code yX4_place cX4_place 5 (some .int) ∈ gT := List.mem_filter.mpr ⟨List.mem_append_right _ (List.mem_append_right _ (List.mem_append_left _ (List.mem_of_getElem? (i := 224) rfl))), rfl⟩
theorem tw_201 : Cond.methodLink RX4 181 yX4_toldTogether ∈ gT := List.mem_filter.mpr ⟨List.mem_append_right _ (List.mem_append_right _ (List.mem_append_left _ (List.mem_of_getElem? (i := 225) rfl))), rfl⟩
theorem tw_202 : Cond.instanceMethod yX4_toldTogether ∈ gT := List.mem_filter.mpr ⟨List.mem_append_right _ (List.mem_append_right _ (List.mem_append_left _ (List.mem_of_getElem? (i := 227) rfl))), rfl⟩
theorem tw_203 : Cond.selects RX4 yX4_toldTogether yX4_toldTogether ∈ gT := List.mem_filter.mpr ⟨List.mem_append_left _ (List.mem_of_getElem? (i := 6) rfl), rfl⟩
theorem tw_204 : Cond.code yX4_toldTogether cX4_toldTogether 7 (some .int) ∈ gT := List.mem_filter.mpr ⟨List.mem_append_right _ (List.mem_append_right _ (List.mem_append_left _ (List.mem_of_getElem? (i := 228) rfl))), rfl⟩
theorem tw_205 : Cond.code yX4_count cX4_count 2 (some .int) ∈ gT := List.mem_filter.mpr ⟨List.mem_append_right _ (List.mem_append_right _ (List.mem_append_left _ (List.mem_of_getElem? (i := 52) rfl))), rfl⟩
theorem tw_206 : Cond.methodLink RX4 184 yX4_turnedLevels ∈ gT := List.mem_filter.mpr ⟨List.mem_append_right _ (List.mem_append_right _ (List.mem_append_left _ (List.mem_of_getElem? (i := 53) rfl))), rfl⟩
theorem tw_207 : Cond.instanceMethod yX4_turnedLevels ∈ gT := List.mem_filter.mpr ⟨List.mem_append_right _ (List.mem_append_right _ (List.mem_append_left _ (List.mem_of_getElem? (i := 55) rfl))), rfl⟩
theorem tw_208 : Cond.selects RX4 yX4_turnedLevels yX4_turnedLevels ∈ gT := List.mem_filter.mpr ⟨List.mem_append_left _ (List.mem_of_getElem? (i := 1) rfl), rfl⟩
theorem tw_209 : Cond.code yX4_turnedLevels cX4_turnedLevels 3 (some .int) ∈ gT := List.mem_filter.mpr ⟨List.mem_append_right _ (List.mem_append_right _ (List.mem_append_left _ (List.mem_of_getElem? (i := 56) rfl))), rfl⟩
theorem tw_210 : Cond.code yX4_setting cX4_setting 2 (some .int) ∈ gT := List.mem_filter.mpr ⟨List.mem_append_right _ (List.mem_append_right _ (List.mem_append_left _ (List.mem_of_getElem? (i := 157) rfl))), rfl⟩
theorem tw_211 : Cond.code yX4_moved cX4_moved 5 (some .int) ∈ gT := List.mem_filter.mpr ⟨List.mem_append_right _ (List.mem_append_right _ (List.mem_append_right _ (List.mem_of_getElem? (i := 13) rfl))), rfl⟩
theorem tw_212 : Cond.methodLink RX4 188 yX4_movedUpTo ∈ gT := List.mem_filter.mpr ⟨List.mem_append_right _ (List.mem_append_right _ (List.mem_append_right _ (List.mem_of_getElem? (i := 14) rfl))), rfl⟩
theorem tw_213 : Cond.instanceMethod yX4_movedUpTo ∈ gT := List.mem_filter.mpr ⟨List.mem_append_right _ (List.mem_append_right _ (List.mem_append_right _ (List.mem_of_getElem? (i := 16) rfl))), rfl⟩
theorem tw_214 : Cond.selects RX4 yX4_movedUpTo yX4_movedUpTo ∈ gT := List.mem_filter.mpr ⟨List.mem_append_left _ (List.mem_of_getElem? (i := 8) rfl), rfl⟩
theorem tw_215 : Cond.code yX4_movedUpTo cX4_movedUpTo 5 (some .int) ∈ gT := List.mem_filter.mpr ⟨List.mem_append_right _ (List.mem_append_right _ (List.mem_append_right _ (List.mem_of_getElem? (i := 17) rfl))), rfl⟩
theorem tw_216 : Cond.code yX4_slidesAt cX4_slidesAt 8 (some .int) ∈ gT := List.mem_filter.mpr ⟨List.mem_append_right _ (List.mem_append_right _ (List.mem_append_right _ (List.mem_of_getElem? (i := 21) rfl))), rfl⟩
theorem tw_217 : Cond.methodLink RX4 194 Lib.Math.abs.name ∈ gT := List.mem_filter.mpr ⟨List.mem_append_right _ (List.mem_append_right _ (List.mem_append_right _ (List.mem_of_getElem? (i := 9) rfl))), rfl⟩
theorem tw_218 : Cond.methodLink RX4 191 yX4_slidBetween ∈ gT := List.mem_filter.mpr ⟨List.mem_append_right _ (List.mem_append_right _ (List.mem_append_right _ (List.mem_of_getElem? (i := 5) rfl))), rfl⟩
theorem tw_219 : Cond.instanceMethod yX4_slidBetween ∈ gT := List.mem_filter.mpr ⟨List.mem_append_right _ (List.mem_append_right _ (List.mem_append_right _ (List.mem_of_getElem? (i := 7) rfl))), rfl⟩
theorem tw_220 : Cond.selects RX4 yX4_slidBetween yX4_slidBetween ∈ gT := List.mem_filter.mpr ⟨List.mem_append_left _ (List.mem_of_getElem? (i := 7) rfl), rfl⟩
theorem tw_221 : Cond.code yX4_slidBetween cX4_slidBetween 5 (some .int) ∈ gT := List.mem_filter.mpr ⟨List.mem_append_right _ (List.mem_append_right _ (List.mem_append_right _ (List.mem_of_getElem? (i := 8) rfl))), rfl⟩
theorem tw_222 : Cond.code yX4_firstMoved cX4_firstMoved 7 (some .int) ∈ gT := List.mem_filter.mpr ⟨List.mem_append_right _ (List.mem_append_right _ (List.mem_append_right _ (List.mem_of_getElem? (i := 4) rfl))), rfl⟩
theorem tw_223 : Cond.code yX4_spread cX4_spread 10 (some .double) ∈ gT := List.mem_filter.mpr ⟨List.mem_append_right _ (List.mem_append_right _ (List.mem_append_left _ (List.mem_of_getElem? (i := 232) rfl))), rfl⟩
theorem tw_224 : Cond.constantLong RX4 198 (16) ∈ gT := List.mem_filter.mpr ⟨List.mem_append_right _ (List.mem_append_right _ (List.mem_append_left _ (List.mem_of_getElem? (i := 233) rfl))), rfl⟩
theorem tw_225 : Cond.constantDouble RX4 200 (4643211215818981376) ∈ gT := List.mem_filter.mpr ⟨List.mem_append_right _ (List.mem_append_right _ (List.mem_append_left _ (List.mem_of_getElem? (i := 234) rfl))), rfl⟩
theorem tw_226 : Cond.code yL_cell cL_cell 2 (some .int) ∈ gT := List.mem_filter.mpr ⟨List.mem_append_right _ (List.mem_append_right _ (List.mem_append_left _ (List.mem_of_getElem? (i := 59) rfl))), rfl⟩
theorem tw_227 : Cond.constant RL 7 (1812433253) ∈ gT := List.mem_filter.mpr ⟨List.mem_append_right _ (List.mem_append_right _ (List.mem_append_left _ (List.mem_of_getElem? (i := 60) rfl))), rfl⟩
theorem tw_228 : Cond.code yL_up cL_up 2 (some .int) ∈ gT := List.mem_filter.mpr ⟨List.mem_append_right _ (List.mem_append_right _ (List.mem_append_left _ (List.mem_of_getElem? (i := 63) rfl))), rfl⟩
theorem tw_229 : Cond.constant RL 8 (2147483647) ∈ gT := List.mem_filter.mpr ⟨List.mem_append_right _ (List.mem_append_right _ (List.mem_append_left _ (List.mem_of_getElem? (i := 64) rfl))), rfl⟩
theorem tw_230 : Cond.code yL_looks cL_looks 5 (some .long) ∈ gT := List.mem_filter.mpr ⟨List.mem_append_right _ (List.mem_append_right _ (List.mem_append_left _ (List.mem_of_getElem? (i := 67) rfl))), rfl⟩
theorem tw_231 : Cond.constantLong RL 9 (79) ∈ gT := List.mem_filter.mpr ⟨List.mem_append_right _ (List.mem_append_right _ (List.mem_append_left _ (List.mem_of_getElem? (i := 68) rfl))), rfl⟩
theorem tw_232 : Cond.constantLong RL 11 (31) ∈ gT := List.mem_filter.mpr ⟨List.mem_append_right _ (List.mem_append_right _ (List.mem_append_left _ (List.mem_of_getElem? (i := 69) rfl))), rfl⟩
theorem tw_233 : Cond.constantLong RL 30 (7) ∈ gT := List.mem_filter.mpr ⟨List.mem_append_right _ (List.mem_append_right _ (List.mem_append_left _ (List.mem_of_getElem? (i := 153) rfl))), rfl⟩
theorem tw_234 : Cond.methodLink RL 13 yX4_count ∈ gT := List.mem_filter.mpr ⟨List.mem_append_right _ (List.mem_append_right _ (List.mem_append_left _ (List.mem_of_getElem? (i := 49) rfl))), rfl⟩
theorem tw_235 : Cond.instanceMethod yX4_count ∈ gT := List.mem_filter.mpr ⟨List.mem_append_right _ (List.mem_append_right _ (List.mem_append_left _ (List.mem_of_getElem? (i := 50) rfl))), rfl⟩
theorem tw_236 : Cond.selects RX4 yX4_count yX4_count ∈ gT := List.mem_filter.mpr ⟨List.mem_append_right _ (List.mem_append_right _ (List.mem_append_left _ (List.mem_of_getElem? (i := 51) rfl))), rfl⟩
theorem tw_237 : Cond.methodLink RL 19 yX4_levelOf ∈ gT := List.mem_filter.mpr ⟨List.mem_append_right _ (List.mem_append_right _ (List.mem_append_left _ (List.mem_of_getElem? (i := 70) rfl))), rfl⟩
theorem tw_238 : Cond.instanceMethod yX4_levelOf ∈ gT := List.mem_filter.mpr ⟨List.mem_append_right _ (List.mem_append_right _ (List.mem_append_left _ (List.mem_of_getElem? (i := 71) rfl))), rfl⟩
theorem tw_239 : Cond.selects RX4 yX4_levelOf yX4_levelOf ∈ gT := List.mem_filter.mpr ⟨List.mem_append_right _ (List.mem_append_right _ (List.mem_append_left _ (List.mem_of_getElem? (i := 72) rfl))), rfl⟩
theorem tw_240 : Cond.methodLink RL 23 yX4_surveyOf ∈ gT := List.mem_filter.mpr ⟨List.mem_append_right _ (List.mem_append_right _ (List.mem_append_left _ (List.mem_of_getElem? (i := 100) rfl))), rfl⟩
theorem tw_241 : Cond.instanceMethod yX4_surveyOf ∈ gT := List.mem_filter.mpr ⟨List.mem_append_right _ (List.mem_append_right _ (List.mem_append_left _ (List.mem_of_getElem? (i := 101) rfl))), rfl⟩
theorem tw_242 : Cond.selects RX4 yX4_surveyOf yX4_surveyOf ∈ gT := List.mem_filter.mpr ⟨List.mem_append_right _ (List.mem_append_right _ (List.mem_append_left _ (List.mem_of_getElem? (i := 102) rfl))), rfl⟩
theorem tw_243 : Cond.methodLink RL 26 yX4_reading ∈ gT := List.mem_filter.mpr ⟨List.mem_append_right _ (List.mem_append_right _ (List.mem_append_left _ (List.mem_of_getElem? (i := 148) rfl))), rfl⟩
theorem tw_244 : Cond.instanceMethod yX4_reading ∈ gT := List.mem_filter.mpr ⟨List.mem_append_right _ (List.mem_append_right _ (List.mem_append_left _ (List.mem_of_getElem? (i := 149) rfl))), rfl⟩
theorem tw_245 : Cond.selects RX4 yX4_reading yX4_reading ∈ gT := List.mem_filter.mpr ⟨List.mem_append_right _ (List.mem_append_right _ (List.mem_append_left _ (List.mem_of_getElem? (i := 150) rfl))), rfl⟩
theorem tw_246 : Cond.methodLink RL 32 yX4_setting ∈ gT := List.mem_filter.mpr ⟨List.mem_append_right _ (List.mem_append_right _ (List.mem_append_left _ (List.mem_of_getElem? (i := 154) rfl))), rfl⟩
theorem tw_247 : Cond.instanceMethod yX4_setting ∈ gT := List.mem_filter.mpr ⟨List.mem_append_right _ (List.mem_append_right _ (List.mem_append_left _ (List.mem_of_getElem? (i := 155) rfl))), rfl⟩
theorem tw_248 : Cond.selects RX4 yX4_setting yX4_setting ∈ gT := List.mem_filter.mpr ⟨List.mem_append_right _ (List.mem_append_right _ (List.mem_append_left _ (List.mem_of_getElem? (i := 156) rfl))), rfl⟩
theorem tw_249 : Cond.code yL_act cL_act 9 (some .int) ∈ gT := List.mem_filter.mpr ⟨List.mem_append_right _ (List.mem_append_right _ (List.mem_append_left _ (List.mem_of_getElem? (i := 160) rfl))), rfl⟩
theorem tw_250 : Cond.methodLink RL 35 yL_up ∈ gT := List.mem_filter.mpr ⟨List.mem_append_right _ (List.mem_append_right _ (List.mem_append_left _ (List.mem_of_getElem? (i := 61) rfl))), rfl⟩
theorem tw_251 : Cond.static yL_up ∈ gT := List.mem_filter.mpr ⟨List.mem_append_right _ (List.mem_append_right _ (List.mem_append_left _ (List.mem_of_getElem? (i := 62) rfl))), rfl⟩
theorem tw_252 : Cond.initialized RL ∈ gT := List.mem_filter.mpr ⟨List.mem_append_right _ (List.mem_append_left _ (List.mem_of_getElem? (i := 0) rfl)), rfl⟩
theorem tw_253 : Cond.methodLink RL 40 yX4_bend ∈ gT := List.mem_filter.mpr ⟨List.mem_append_right _ (List.mem_append_right _ (List.mem_append_left _ (List.mem_of_getElem? (i := 161) rfl))), rfl⟩
theorem tw_254 : Cond.instanceMethod yX4_bend ∈ gT := List.mem_filter.mpr ⟨List.mem_append_right _ (List.mem_append_right _ (List.mem_append_left _ (List.mem_of_getElem? (i := 162) rfl))), rfl⟩
theorem tw_255 : Cond.selects RX4 yX4_bend yX4_bend ∈ gT := List.mem_filter.mpr ⟨List.mem_append_right _ (List.mem_append_right _ (List.mem_append_left _ (List.mem_of_getElem? (i := 163) rfl))), rfl⟩
theorem tw_256 : Cond.methodLink RL 44 yX4_slide ∈ gT := List.mem_filter.mpr ⟨List.mem_append_right _ (List.mem_append_right _ (List.mem_append_left _ (List.mem_of_getElem? (i := 173) rfl))), rfl⟩
theorem tw_257 : Cond.instanceMethod yX4_slide ∈ gT := List.mem_filter.mpr ⟨List.mem_append_right _ (List.mem_append_right _ (List.mem_append_left _ (List.mem_of_getElem? (i := 174) rfl))), rfl⟩
theorem tw_258 : Cond.selects RX4 yX4_slide yX4_slide ∈ gT := List.mem_filter.mpr ⟨List.mem_append_right _ (List.mem_append_right _ (List.mem_append_left _ (List.mem_of_getElem? (i := 175) rfl))), rfl⟩
theorem tw_259 : Cond.methodLink RL 47 yX4_turn ∈ gT := List.mem_filter.mpr ⟨List.mem_append_right _ (List.mem_append_right _ (List.mem_append_left _ (List.mem_of_getElem? (i := 183) rfl))), rfl⟩
theorem tw_260 : Cond.instanceMethod yX4_turn ∈ gT := List.mem_filter.mpr ⟨List.mem_append_right _ (List.mem_append_right _ (List.mem_append_left _ (List.mem_of_getElem? (i := 184) rfl))), rfl⟩
theorem tw_261 : Cond.selects RX4 yX4_turn yX4_turn ∈ gT := List.mem_filter.mpr ⟨List.mem_append_right _ (List.mem_append_right _ (List.mem_append_left _ (List.mem_of_getElem? (i := 185) rfl))), rfl⟩
theorem tw_262 : Cond.methodLink RL 50 yX4_bias ∈ gT := List.mem_filter.mpr ⟨List.mem_append_right _ (List.mem_append_right _ (List.mem_append_left _ (List.mem_of_getElem? (i := 187) rfl))), rfl⟩
theorem tw_263 : Cond.instanceMethod yX4_bias ∈ gT := List.mem_filter.mpr ⟨List.mem_append_right _ (List.mem_append_right _ (List.mem_append_left _ (List.mem_of_getElem? (i := 188) rfl))), rfl⟩
theorem tw_264 : Cond.selects RX4 yX4_bias yX4_bias ∈ gT := List.mem_filter.mpr ⟨List.mem_append_right _ (List.mem_append_right _ (List.mem_append_left _ (List.mem_of_getElem? (i := 189) rfl))), rfl⟩
theorem tw_265 : Cond.methodLink RL 53 yX4_set ∈ gT := List.mem_filter.mpr ⟨List.mem_append_right _ (List.mem_append_right _ (List.mem_append_left _ (List.mem_of_getElem? (i := 191) rfl))), rfl⟩
theorem tw_266 : Cond.instanceMethod yX4_set ∈ gT := List.mem_filter.mpr ⟨List.mem_append_right _ (List.mem_append_right _ (List.mem_append_left _ (List.mem_of_getElem? (i := 192) rfl))), rfl⟩
theorem tw_267 : Cond.selects RX4 yX4_set yX4_set ∈ gT := List.mem_filter.mpr ⟨List.mem_append_right _ (List.mem_append_right _ (List.mem_append_left _ (List.mem_of_getElem? (i := 193) rfl))), rfl⟩
theorem tw_268 : Cond.methodLink RL 56 yX4_pass ∈ gT := List.mem_filter.mpr ⟨List.mem_append_right _ (List.mem_append_right _ (List.mem_append_left _ (List.mem_of_getElem? (i := 195) rfl))), rfl⟩
theorem tw_269 : Cond.instanceMethod yX4_pass ∈ gT := List.mem_filter.mpr ⟨List.mem_append_right _ (List.mem_append_right _ (List.mem_append_left _ (List.mem_of_getElem? (i := 196) rfl))), rfl⟩
theorem tw_270 : Cond.selects RX4 yX4_pass yX4_pass ∈ gT := List.mem_filter.mpr ⟨List.mem_append_right _ (List.mem_append_right _ (List.mem_append_left _ (List.mem_of_getElem? (i := 197) rfl))), rfl⟩
theorem tw_271 : Cond.methodLink RL 59 yX4_drop ∈ gT := List.mem_filter.mpr ⟨List.mem_append_right _ (List.mem_append_right _ (List.mem_append_left _ (List.mem_of_getElem? (i := 199) rfl))), rfl⟩
theorem tw_272 : Cond.instanceMethod yX4_drop ∈ gT := List.mem_filter.mpr ⟨List.mem_append_right _ (List.mem_append_right _ (List.mem_append_left _ (List.mem_of_getElem? (i := 200) rfl))), rfl⟩
theorem tw_273 : Cond.selects RX4 yX4_drop yX4_drop ∈ gT := List.mem_filter.mpr ⟨List.mem_append_right _ (List.mem_append_right _ (List.mem_append_left _ (List.mem_of_getElem? (i := 201) rfl))), rfl⟩
theorem tw_274 : Cond.methodLink RL 63 yX4_survey ∈ gT := List.mem_filter.mpr ⟨List.mem_append_right _ (List.mem_append_right _ (List.mem_append_left _ (List.mem_of_getElem? (i := 203) rfl))), rfl⟩
theorem tw_275 : Cond.instanceMethod yX4_survey ∈ gT := List.mem_filter.mpr ⟨List.mem_append_right _ (List.mem_append_right _ (List.mem_append_left _ (List.mem_of_getElem? (i := 204) rfl))), rfl⟩
theorem tw_276 : Cond.selects RX4 yX4_survey yX4_survey ∈ gT := List.mem_filter.mpr ⟨List.mem_append_right _ (List.mem_append_right _ (List.mem_append_left _ (List.mem_of_getElem? (i := 205) rfl))), rfl⟩
theorem tw_277 : Cond.methodLink RL 66 yX4_goBack ∈ gT := List.mem_filter.mpr ⟨List.mem_append_right _ (List.mem_append_right _ (List.mem_append_left _ (List.mem_of_getElem? (i := 207) rfl))), rfl⟩
theorem tw_278 : Cond.instanceMethod yX4_goBack ∈ gT := List.mem_filter.mpr ⟨List.mem_append_right _ (List.mem_append_right _ (List.mem_append_left _ (List.mem_of_getElem? (i := 208) rfl))), rfl⟩
theorem tw_279 : Cond.selects RX4 yX4_goBack yX4_goBack ∈ gT := List.mem_filter.mpr ⟨List.mem_append_right _ (List.mem_append_right _ (List.mem_append_left _ (List.mem_of_getElem? (i := 209) rfl))), rfl⟩
theorem tw_280 : Cond.methodLink RL 69 yX4_spoil ∈ gT := List.mem_filter.mpr ⟨List.mem_append_right _ (List.mem_append_right _ (List.mem_append_left _ (List.mem_of_getElem? (i := 211) rfl))), rfl⟩
theorem tw_281 : Cond.instanceMethod yX4_spoil ∈ gT := List.mem_filter.mpr ⟨List.mem_append_right _ (List.mem_append_right _ (List.mem_append_left _ (List.mem_of_getElem? (i := 212) rfl))), rfl⟩
theorem tw_282 : Cond.selects RX4 yX4_spoil yX4_spoil ∈ gT := List.mem_filter.mpr ⟨List.mem_append_right _ (List.mem_append_right _ (List.mem_append_left _ (List.mem_of_getElem? (i := 213) rfl))), rfl⟩
theorem tw_283 : Cond.code yL_isLevel cL_isLevel 9 (some .boolean) ∈ gT := List.mem_filter.mpr ⟨List.mem_append_right _ (List.mem_append_right _ (List.mem_append_left _ (List.mem_of_getElem? (i := 217) rfl))), rfl⟩
theorem tw_284 : Cond.code yL_isSurvey cL_isSurvey 13 (some .boolean) ∈ gT := List.mem_filter.mpr ⟨List.mem_append_right _ (List.mem_append_right _ (List.mem_append_left _ (List.mem_of_getElem? (i := 220) rfl))), rfl⟩
theorem tw_285 : Cond.methodLink RL 72 yX4_place ∈ gT := List.mem_filter.mpr ⟨List.mem_append_right _ (List.mem_append_right _ (List.mem_append_left _ (List.mem_of_getElem? (i := 221) rfl))), rfl⟩
theorem tw_286 : Cond.instanceMethod yX4_place ∈ gT := List.mem_filter.mpr ⟨List.mem_append_right _ (List.mem_append_right _ (List.mem_append_left _ (List.mem_of_getElem? (i := 222) rfl))), rfl⟩
theorem tw_287 : Cond.selects RX4 yX4_place yX4_place ∈ gT := List.mem_filter.mpr ⟨List.mem_append_right _ (List.mem_append_right _ (List.mem_append_left _ (List.mem_of_getElem? (i := 223) rfl))), rfl⟩
theorem tw_288 : Cond.methodLink RL 75 yX4_spread ∈ gT := List.mem_filter.mpr ⟨List.mem_append_right _ (List.mem_append_right _ (List.mem_append_left _ (List.mem_of_getElem? (i := 229) rfl))), rfl⟩
theorem tw_289 : Cond.instanceMethod yX4_spread ∈ gT := List.mem_filter.mpr ⟨List.mem_append_right _ (List.mem_append_right _ (List.mem_append_left _ (List.mem_of_getElem? (i := 230) rfl))), rfl⟩
theorem tw_290 : Cond.selects RX4 yX4_spread yX4_spread ∈ gT := List.mem_filter.mpr ⟨List.mem_append_right _ (List.mem_append_right _ (List.mem_append_left _ (List.mem_of_getElem? (i := 231) rfl))), rfl⟩
theorem tw_291 : Cond.code yL_isTaken cL_isTaken 5 (some .boolean) ∈ gT := List.mem_filter.mpr ⟨List.mem_append_right _ (List.mem_append_right _ (List.mem_append_left _ (List.mem_of_getElem? (i := 237) rfl))), rfl⟩
theorem tw_292 : Cond.methodLink RL 79 yX4_keep ∈ gT := List.mem_filter.mpr ⟨List.mem_append_right _ (List.mem_append_left _ (List.mem_of_getElem? (i := 176) rfl)), rfl⟩
theorem tw_293 : Cond.instanceMethod yX4_keep ∈ gT := List.mem_filter.mpr ⟨List.mem_append_right _ (List.mem_append_left _ (List.mem_of_getElem? (i := 177) rfl)), rfl⟩
theorem tw_294 : Cond.selects RX4 yX4_keep yX4_keep ∈ gT := List.mem_filter.mpr ⟨List.mem_append_right _ (List.mem_append_left _ (List.mem_of_getElem? (i := 178) rfl)), rfl⟩
theorem tw_295 : Cond.code yL_areMoved cL_areMoved 11 (some .boolean) ∈ gT := List.mem_filter.mpr ⟨List.mem_append_right _ (List.mem_append_right _ (List.mem_append_right _ (List.mem_of_getElem? (i := 0) rfl))), rfl⟩
theorem tw_296 : Cond.methodLink RL 82 yX4_firstMoved ∈ gT := List.mem_filter.mpr ⟨List.mem_append_right _ (List.mem_append_right _ (List.mem_append_right _ (List.mem_of_getElem? (i := 1) rfl))), rfl⟩
theorem tw_297 : Cond.instanceMethod yX4_firstMoved ∈ gT := List.mem_filter.mpr ⟨List.mem_append_right _ (List.mem_append_right _ (List.mem_append_right _ (List.mem_of_getElem? (i := 2) rfl))), rfl⟩
theorem tw_298 : Cond.selects RX4 yX4_firstMoved yX4_firstMoved ∈ gT := List.mem_filter.mpr ⟨List.mem_append_right _ (List.mem_append_right _ (List.mem_append_right _ (List.mem_of_getElem? (i := 3) rfl))), rfl⟩
theorem tw_299 : Cond.methodLink RL 85 yX4_moved ∈ gT := List.mem_filter.mpr ⟨List.mem_append_right _ (List.mem_append_right _ (List.mem_append_right _ (List.mem_of_getElem? (i := 10) rfl))), rfl⟩
theorem tw_300 : Cond.instanceMethod yX4_moved ∈ gT := List.mem_filter.mpr ⟨List.mem_append_right _ (List.mem_append_right _ (List.mem_append_right _ (List.mem_of_getElem? (i := 11) rfl))), rfl⟩
theorem tw_301 : Cond.selects RX4 yX4_moved yX4_moved ∈ gT := List.mem_filter.mpr ⟨List.mem_append_right _ (List.mem_append_right _ (List.mem_append_right _ (List.mem_of_getElem? (i := 12) rfl))), rfl⟩
theorem tw_302 : Cond.methodLink RL 88 yX4_slidesAt ∈ gT := List.mem_filter.mpr ⟨List.mem_append_right _ (List.mem_append_right _ (List.mem_append_right _ (List.mem_of_getElem? (i := 18) rfl))), rfl⟩
theorem tw_303 : Cond.instanceMethod yX4_slidesAt ∈ gT := List.mem_filter.mpr ⟨List.mem_append_right _ (List.mem_append_right _ (List.mem_append_right _ (List.mem_of_getElem? (i := 19) rfl))), rfl⟩
theorem tw_304 : Cond.selects RX4 yX4_slidesAt yX4_slidesAt ∈ gT := List.mem_filter.mpr ⟨List.mem_append_right _ (List.mem_append_right _ (List.mem_append_right _ (List.mem_of_getElem? (i := 20) rfl))), rfl⟩
theorem tw_305 : Cond.code yL_isStill cL_isStill 7 (some .boolean) ∈ gT := List.mem_filter.mpr ⟨List.mem_append_right _ (List.mem_append_right _ (List.mem_append_right _ (List.mem_of_getElem? (i := 24) rfl))), rfl⟩
theorem tw_306 : Cond.methodLink RL 91 yX4_undo ∈ gT := List.mem_filter.mpr ⟨List.mem_append_right _ (List.mem_append_right _ (List.mem_append_left _ (List.mem_of_getElem? (i := 21) rfl))), rfl⟩
theorem tw_307 : Cond.instanceMethod yX4_undo ∈ gT := List.mem_filter.mpr ⟨List.mem_append_right _ (List.mem_append_right _ (List.mem_append_left _ (List.mem_of_getElem? (i := 22) rfl))), rfl⟩
theorem tw_308 : Cond.selects RX4 yX4_undo yX4_undo ∈ gT := List.mem_filter.mpr ⟨List.mem_append_right _ (List.mem_append_right _ (List.mem_append_left _ (List.mem_of_getElem? (i := 23) rfl))), rfl⟩
theorem tw_309 : Cond.classLink RL 14 RX4 ∈ gT := List.mem_filter.mpr ⟨List.mem_append_right _ (List.mem_append_left _ (List.mem_of_getElem? (i := 14) rfl)), rfl⟩
theorem tw_310 : Cond.instantiable RX4 8 ∈ gT := List.mem_filter.mpr ⟨List.mem_append_right _ (List.mem_append_left _ (List.mem_of_getElem? (i := 15) rfl)), rfl⟩
theorem tw_311 : Cond.methodLink RL 94 yX4_init ∈ gT := List.mem_filter.mpr ⟨List.mem_append_right _ (List.mem_append_left _ (List.mem_of_getElem? (i := 16) rfl)), rfl⟩
theorem tw_312 : Cond.instanceMethod yX4_init ∈ gT := List.mem_filter.mpr ⟨List.mem_append_right _ (List.mem_append_left _ (List.mem_of_getElem? (i := 17) rfl)), rfl⟩
theorem tw_313 : Cond.methodLink RL 95 yL_cell ∈ gT := List.mem_filter.mpr ⟨List.mem_append_right _ (List.mem_append_right _ (List.mem_append_left _ (List.mem_of_getElem? (i := 57) rfl))), rfl⟩
theorem tw_314 : Cond.static yL_cell ∈ gT := List.mem_filter.mpr ⟨List.mem_append_right _ (List.mem_append_right _ (List.mem_append_left _ (List.mem_of_getElem? (i := 58) rfl))), rfl⟩
theorem tw_315 : Cond.methodLink RL 99 yL_looks ∈ gT := List.mem_filter.mpr ⟨List.mem_append_right _ (List.mem_append_right _ (List.mem_append_left _ (List.mem_of_getElem? (i := 65) rfl))), rfl⟩
theorem tw_316 : Cond.static yL_looks ∈ gT := List.mem_filter.mpr ⟨List.mem_append_right _ (List.mem_append_right _ (List.mem_append_left _ (List.mem_of_getElem? (i := 66) rfl))), rfl⟩
theorem tw_317 : Cond.methodLink RL 103 yL_act ∈ gT := List.mem_filter.mpr ⟨List.mem_append_right _ (List.mem_append_right _ (List.mem_append_left _ (List.mem_of_getElem? (i := 158) rfl))), rfl⟩
theorem tw_318 : Cond.static yL_act ∈ gT := List.mem_filter.mpr ⟨List.mem_append_right _ (List.mem_append_right _ (List.mem_append_left _ (List.mem_of_getElem? (i := 159) rfl))), rfl⟩
theorem tw_319 : Cond.methodLink RL 107 yL_isLevel ∈ gT := List.mem_filter.mpr ⟨List.mem_append_right _ (List.mem_append_right _ (List.mem_append_left _ (List.mem_of_getElem? (i := 215) rfl))), rfl⟩
theorem tw_320 : Cond.static yL_isLevel ∈ gT := List.mem_filter.mpr ⟨List.mem_append_right _ (List.mem_append_right _ (List.mem_append_left _ (List.mem_of_getElem? (i := 216) rfl))), rfl⟩
theorem tw_321 : Cond.methodLink RL 111 yL_isSurvey ∈ gT := List.mem_filter.mpr ⟨List.mem_append_right _ (List.mem_append_right _ (List.mem_append_left _ (List.mem_of_getElem? (i := 218) rfl))), rfl⟩
theorem tw_322 : Cond.static yL_isSurvey ∈ gT := List.mem_filter.mpr ⟨List.mem_append_right _ (List.mem_append_right _ (List.mem_append_left _ (List.mem_of_getElem? (i := 219) rfl))), rfl⟩
theorem tw_323 : Cond.methodLink RL 114 yL_areMoved ∈ gT := List.mem_filter.mpr ⟨List.mem_append_right _ (List.mem_append_right _ (List.mem_append_left _ (List.mem_of_getElem? (i := 238) rfl))), rfl⟩
theorem tw_324 : Cond.static yL_areMoved ∈ gT := List.mem_filter.mpr ⟨List.mem_append_right _ (List.mem_append_right _ (List.mem_append_left _ (List.mem_of_getElem? (i := 239) rfl))), rfl⟩
theorem tw_325 : Cond.methodLink RL 118 yL_isStill ∈ gT := List.mem_filter.mpr ⟨List.mem_append_right _ (List.mem_append_right _ (List.mem_append_right _ (List.mem_of_getElem? (i := 22) rfl))), rfl⟩
theorem tw_326 : Cond.static yL_isStill ∈ gT := List.mem_filter.mpr ⟨List.mem_append_right _ (List.mem_append_right _ (List.mem_append_right _ (List.mem_of_getElem? (i := 23) rfl))), rfl⟩
theorem tw_327 : Cond.methodLink RL 122 yL_isTaken ∈ gT := List.mem_filter.mpr ⟨List.mem_append_right _ (List.mem_append_right _ (List.mem_append_left _ (List.mem_of_getElem? (i := 235) rfl))), rfl⟩
theorem tw_328 : Cond.static yL_isTaken ∈ gT := List.mem_filter.mpr ⟨List.mem_append_right _ (List.mem_append_right _ (List.mem_append_left _ (List.mem_of_getElem? (i := 236) rfl))), rfl⟩
theorem tw_X0_0 : Cond.laysFinal "SlotProbe$Findings" "SlotProbe$Findings" "commons" "[I" ∈ gT := List.mem_filter.mpr ⟨List.mem_append_right _ (List.mem_append_left _ (List.mem_of_getElem? (i := 112) rfl)), rfl⟩
theorem tw_X0_1 : Cond.laysFinal "SlotProbe$Findings" "SlotProbe$Findings" "off" "[I" ∈ gT := List.mem_filter.mpr ⟨List.mem_append_right _ (List.mem_append_left _ (List.mem_of_getElem? (i := 114) rfl)), rfl⟩
theorem tw_X0_2 : Cond.laysFinal "SlotProbe$Findings" "SlotProbe$Findings" "read" "[I" ∈ gT := List.mem_filter.mpr ⟨List.mem_append_right _ (List.mem_append_left _ (List.mem_of_getElem? (i := 116) rfl)), rfl⟩
theorem tw_X0_3 : Cond.laysFinal "SlotProbe$Findings" "SlotProbe$Findings" "told" "[I" ∈ gT := List.mem_filter.mpr ⟨List.mem_append_right _ (List.mem_append_left _ (List.mem_of_getElem? (i := 118) rfl)), rfl⟩
theorem tw_X0_4 : Cond.laysFinal "SlotProbe$Findings" "SlotProbe$Findings" "ordered" "[I" ∈ gT := List.mem_filter.mpr ⟨List.mem_append_right _ (List.mem_append_left _ (List.mem_of_getElem? (i := 120) rfl)), rfl⟩
theorem tw_X0_5 : Cond.lays "SlotProbe$Findings" "SlotProbe$Findings" "fresh" "Z" ∈ gT := List.mem_filter.mpr ⟨List.mem_append_right _ (List.mem_append_left _ (List.mem_of_getElem? (i := 122) rfl)), rfl⟩
theorem iX0 : ∀ w ∈ wsX00, w ∈ gT := by
  intro w hw
  obtain ⟨k, hk, rfl⟩ := List.mem_map.mp hw
  have hk := List.mem_range.mp hk
  match k, hk with
  | 0, _ => exact tw_X0_0
  | 1, _ => exact tw_X0_1
  | 2, _ => exact tw_X0_2
  | 3, _ => exact tw_X0_3
  | 4, _ => exact tw_X0_4
  | 5, _ => exact tw_X0_5
  | k + 6, hk => exact absurd hk (by omega)
theorem tw_X1_0 : Cond.laysFinal "SlotProbe$History" "SlotProbe$History" "ring" "[LSlotProbe$State;" ∈ gT := List.mem_filter.mpr ⟨List.mem_append_right _ (List.mem_append_left _ (List.mem_of_getElem? (i := 87) rfl)), rfl⟩
theorem tw_X1_1 : Cond.lays "SlotProbe$History" "SlotProbe$History" "oldest" "I" ∈ gT := List.mem_filter.mpr ⟨List.mem_append_right _ (List.mem_append_left _ (List.mem_of_getElem? (i := 89) rfl)), rfl⟩
theorem tw_X1_2 : Cond.lays "SlotProbe$History" "SlotProbe$History" "saved" "I" ∈ gT := List.mem_filter.mpr ⟨List.mem_append_right _ (List.mem_append_left _ (List.mem_of_getElem? (i := 91) rfl)), rfl⟩
theorem iX1 : ∀ w ∈ wsX10, w ∈ gT := by
  intro w hw
  obtain ⟨k, hk, rfl⟩ := List.mem_map.mp hw
  have hk := List.mem_range.mp hk
  match k, hk with
  | 0, _ => exact tw_X1_0
  | 1, _ => exact tw_X1_1
  | 2, _ => exact tw_X1_2
  | k + 3, hk => exact absurd hk (by omega)
theorem tw_X2_0 : Cond.laysFinal "SlotProbe$State" "SlotProbe$State" "tilts" "[I" ∈ gT := List.mem_filter.mpr ⟨List.mem_append_right _ (List.mem_append_left _ (List.mem_of_getElem? (i := 52) rfl)), rfl⟩
theorem tw_X2_1 : Cond.laysFinal "SlotProbe$State" "SlotProbe$State" "turns" "[I" ∈ gT := List.mem_filter.mpr ⟨List.mem_append_right _ (List.mem_append_left _ (List.mem_of_getElem? (i := 54) rfl)), rfl⟩
theorem tw_X2_2 : Cond.laysFinal "SlotProbe$State" "SlotProbe$State" "biases" "[I" ∈ gT := List.mem_filter.mpr ⟨List.mem_append_right _ (List.mem_append_left _ (List.mem_of_getElem? (i := 56) rfl)), rfl⟩
theorem tw_X2_3 : Cond.laysFinal "SlotProbe$State" "SlotProbe$State" "settings" "[I" ∈ gT := List.mem_filter.mpr ⟨List.mem_append_right _ (List.mem_append_left _ (List.mem_of_getElem? (i := 58) rfl)), rfl⟩
theorem tw_X2_4 : Cond.laysFinal "SlotProbe$State" "SlotProbe$State" "readings" "[I" ∈ gT := List.mem_filter.mpr ⟨List.mem_append_right _ (List.mem_append_left _ (List.mem_of_getElem? (i := 60) rfl)), rfl⟩
theorem tw_X2_5 : Cond.laysFinal "SlotProbe$State" "SlotProbe$State" "days" "[I" ∈ gT := List.mem_filter.mpr ⟨List.mem_append_right _ (List.mem_append_left _ (List.mem_of_getElem? (i := 62) rfl)), rfl⟩
theorem tw_X2_6 : Cond.lays "SlotProbe$State" "SlotProbe$State" "day" "I" ∈ gT := List.mem_filter.mpr ⟨List.mem_append_right _ (List.mem_append_left _ (List.mem_of_getElem? (i := 64) rfl)), rfl⟩
theorem tw_X2_7 : Cond.lays "SlotProbe$State" "SlotProbe$State" "surveys" "I" ∈ gT := List.mem_filter.mpr ⟨List.mem_append_right _ (List.mem_append_left _ (List.mem_of_getElem? (i := 66) rfl)), rfl⟩
theorem tw_X2_8 : Cond.lays "SlotProbe$State" "SlotProbe$State" "surveysTaken" "I" ∈ gT := List.mem_filter.mpr ⟨List.mem_append_right _ (List.mem_append_left _ (List.mem_of_getElem? (i := 68) rfl)), rfl⟩
theorem tw_X2_9 : Cond.lays "SlotProbe$State" "SlotProbe$State" "readingsSpoiled" "I" ∈ gT := List.mem_filter.mpr ⟨List.mem_append_right _ (List.mem_append_left _ (List.mem_of_getElem? (i := 70) rfl)), rfl⟩
theorem iX2 : ∀ w ∈ wsX20, w ∈ gT := by
  intro w hw
  obtain ⟨k, hk, rfl⟩ := List.mem_map.mp hw
  have hk := List.mem_range.mp hk
  match k, hk with
  | 0, _ => exact tw_X2_0
  | 1, _ => exact tw_X2_1
  | 2, _ => exact tw_X2_2
  | 3, _ => exact tw_X2_3
  | 4, _ => exact tw_X2_4
  | 5, _ => exact tw_X2_5
  | 6, _ => exact tw_X2_6
  | 7, _ => exact tw_X2_7
  | 8, _ => exact tw_X2_8
  | 9, _ => exact tw_X2_9
  | k + 10, hk => exact absurd hk (by omega)
theorem tw_X3_0 : Cond.lays "SlotProbe$TextReader" "SlotProbe$TextReader" "step" "I" ∈ gT := List.mem_filter.mpr ⟨List.mem_append_right _ (List.mem_append_left _ (List.mem_of_getElem? (i := 137) rfl)), rfl⟩
theorem tw_X3_1 : Cond.lays "SlotProbe$TextReader" "SlotProbe$TextReader" "level" "I" ∈ gT := List.mem_filter.mpr ⟨List.mem_append_right _ (List.mem_append_left _ (List.mem_of_getElem? (i := 139) rfl)), rfl⟩
theorem tw_X3_2 : Cond.lays "SlotProbe$TextReader" "SlotProbe$TextReader" "own" "I" ∈ gT := List.mem_filter.mpr ⟨List.mem_append_right _ (List.mem_append_left _ (List.mem_of_getElem? (i := 141) rfl)), rfl⟩
theorem tw_X3_3 : Cond.lays "SlotProbe$TextReader" "SlotProbe$TextReader" "face" "I" ∈ gT := List.mem_filter.mpr ⟨List.mem_append_right _ (List.mem_append_left _ (List.mem_of_getElem? (i := 143) rfl)), rfl⟩
theorem tw_X3_4 : Cond.lays "SlotProbe$TextReader" "SlotProbe$TextReader" "number" "I" ∈ gT := List.mem_filter.mpr ⟨List.mem_append_right _ (List.mem_append_left _ (List.mem_of_getElem? (i := 145) rfl)), rfl⟩
theorem tw_X3_5 : Cond.lays "SlotProbe$TextReader" "SlotProbe$TextReader" "below" "Z" ∈ gT := List.mem_filter.mpr ⟨List.mem_append_right _ (List.mem_append_left _ (List.mem_of_getElem? (i := 147) rfl)), rfl⟩
theorem iX3 : ∀ w ∈ wsX30, w ∈ gT := by
  intro w hw
  obtain ⟨k, hk, rfl⟩ := List.mem_map.mp hw
  have hk := List.mem_range.mp hk
  match k, hk with
  | 0, _ => exact tw_X3_0
  | 1, _ => exact tw_X3_1
  | 2, _ => exact tw_X3_2
  | 3, _ => exact tw_X3_3
  | 4, _ => exact tw_X3_4
  | 5, _ => exact tw_X3_5
  | k + 6, hk => exact absurd hk (by omega)
theorem tw_X4_0 : Cond.laysFinal "SlotProbe" "SlotProbe" "now" "LSlotProbe$State;" ∈ gT := List.mem_filter.mpr ⟨List.mem_append_right _ (List.mem_append_left _ (List.mem_of_getElem? (i := 158) rfl)), rfl⟩
theorem tw_X4_1 : Cond.laysFinal "SlotProbe" "SlotProbe" "slots" "[LSlotProbe$State;" ∈ gT := List.mem_filter.mpr ⟨List.mem_append_right _ (List.mem_append_left _ (List.mem_of_getElem? (i := 160) rfl)), rfl⟩
theorem tw_X4_2 : Cond.laysFinal "SlotProbe" "SlotProbe" "slotHolds" "[Z" ∈ gT := List.mem_filter.mpr ⟨List.mem_append_right _ (List.mem_append_left _ (List.mem_of_getElem? (i := 162) rfl)), rfl⟩
theorem tw_X4_3 : Cond.laysFinal "SlotProbe" "SlotProbe" "history" "LSlotProbe$History;" ∈ gT := List.mem_filter.mpr ⟨List.mem_append_right _ (List.mem_append_left _ (List.mem_of_getElem? (i := 164) rfl)), rfl⟩
theorem tw_X4_4 : Cond.laysFinal "SlotProbe" "SlotProbe" "findings" "LSlotProbe$Findings;" ∈ gT := List.mem_filter.mpr ⟨List.mem_append_right _ (List.mem_append_left _ (List.mem_of_getElem? (i := 166) rfl)), rfl⟩
theorem tw_X4_5 : Cond.laysFinal "SlotProbe" "SlotProbe" "reader" "LSlotProbe$TextReader;" ∈ gT := List.mem_filter.mpr ⟨List.mem_append_right _ (List.mem_append_left _ (List.mem_of_getElem? (i := 168) rfl)), rfl⟩
theorem tw_X4_6 : Cond.laysFinal "SlotProbe" "SlotProbe" "buffer" "[C" ∈ gT := List.mem_filter.mpr ⟨List.mem_append_right _ (List.mem_append_left _ (List.mem_of_getElem? (i := 170) rfl)), rfl⟩
theorem tw_X4_7 : Cond.lays "SlotProbe" "SlotProbe" "bufferLength" "I" ∈ gT := List.mem_filter.mpr ⟨List.mem_append_right _ (List.mem_append_left _ (List.mem_of_getElem? (i := 172) rfl)), rfl⟩
theorem iX4 : ∀ w ∈ wsX40, w ∈ gT := by
  intro w hw
  obtain ⟨k, hk, rfl⟩ := List.mem_map.mp hw
  have hk := List.mem_range.mp hk
  match k, hk with
  | 0, _ => exact tw_X4_0
  | 1, _ => exact tw_X4_1
  | 2, _ => exact tw_X4_2
  | 3, _ => exact tw_X4_3
  | 4, _ => exact tw_X4_4
  | 5, _ => exact tw_X4_5
  | 6, _ => exact tw_X4_6
  | 7, _ => exact tw_X4_7
  | k + 8, hk => exact absurd hk (by omega)
set_option maxRecDepth 20000 in
theorem wsL_law_x0 : ∀ w ∈ (vx_atS RX4 244 "java/lang/IllegalArgumentException" ["java/lang/RuntimeException", "java/lang/Exception"]).filter goodWord, w ∈ gT := fun w h => List.mem_filter.mpr ⟨(by decide +kernel : ∀ w ∈ (vx_atS RX4 244 "java/lang/IllegalArgumentException" ["java/lang/RuntimeException", "java/lang/Exception"]).filter goodWord, w ∈ lw_tbl) w h, (List.mem_filter.mp h).2⟩
set_option maxRecDepth 20000 in
theorem wsL_law_x1 : ∀ w ∈ (vx_atS RX4 237 "java/lang/IndexOutOfBoundsException" ["java/lang/RuntimeException", "java/lang/Exception"]).filter goodWord, w ∈ gT := fun w h => List.mem_filter.mpr ⟨(by decide +kernel : ∀ w ∈ (vx_atS RX4 237 "java/lang/IndexOutOfBoundsException" ["java/lang/RuntimeException", "java/lang/Exception"]).filter goodWord, w ∈ lw_tbl) w h, (List.mem_filter.mp h).2⟩
set_option maxRecDepth 20000 in
theorem wsL_law_x2 : ∀ w ∈ (vx_atS RX4 251 "java/lang/IllegalStateException" ["java/lang/RuntimeException", "java/lang/Exception"]).filter goodWord, w ∈ gT := fun w h => List.mem_filter.mpr ⟨(by decide +kernel : ∀ w ∈ (vx_atS RX4 251 "java/lang/IllegalStateException" ["java/lang/RuntimeException", "java/lang/Exception"]).filter goodWord, w ∈ lw_tbl) w h, (List.mem_filter.mp h).2⟩
