def RX0 : String := "DictationBelt$OrderText"
def TX0 : u_T := fun k => match k with
  | 0 => ("DictationBelt$OrderText", "codes", "[I", true)
  | _ => ("DictationBelt$OrderText", "length", "I", false)
def tyX0 : Nat → FieldType := fun k => match k with
  | 0 => .array .int
  | _ => .int
abbrev wsX00 : List Cond := u_ws RX0 TX0 2
theorem nmX0 : ∀ a, a < 2 → ∀ b, b < 2 → a ≠ b → (TX0 a).2.1 ≠ (TX0 b).2.1 := by decide +kernel
theorem tyX0_ok : ∀ k, k < 2 → parseFieldDescriptor (TX0 k).2.2.1 = some (tyX0 k) := by decide +kernel
abbrev cX0_init : ByteArray := prog_2_method_1_code
def yX0_init : MethodName := ⟨RX0, "<init>", "()V"⟩
def RX1 : String := "DictationBelt$State"
def TX1 : u_T := fun k => match k with
  | 0 => ("DictationBelt$State", "owners", "[I", true)
  | 1 => ("DictationBelt$State", "sounds", "[I", true)
  | 2 => ("DictationBelt$State", "carbons", "[I", true)
  | 3 => ("DictationBelt$State", "order", "[I", true)
  | 4 => ("DictationBelt$State", "used", "I", false)
  | 5 => ("DictationBelt$State", "flags", "[I", true)
  | 6 => ("DictationBelt$State", "losses", "[I", true)
  | 7 => ("DictationBelt$State", "count", "I", false)
  | 8 => ("DictationBelt$State", "isRunning", "Z", false)
  | 9 => ("DictationBelt$State", "head", "I", false)
  | 10 => ("DictationBelt$State", "spoken", "I", false)
  | 11 => ("DictationBelt$State", "gone", "I", false)
  | 12 => ("DictationBelt$State", "player", "I", false)
  | _ => ("DictationBelt$State", "place", "I", false)
def tyX1 : Nat → FieldType := fun k => match k with
  | 0 => .array .int
  | 1 => .array .int
  | 2 => .array .int
  | 3 => .array .int
  | 4 => .int
  | 5 => .array .int
  | 6 => .array .int
  | 7 => .int
  | 8 => .boolean
  | 9 => .int
  | 10 => .int
  | 11 => .int
  | 12 => .int
  | _ => .int
abbrev wsX10 : List Cond := u_ws RX1 TX1 14
theorem nmX1 : ∀ a, a < 14 → ∀ b, b < 14 → a ≠ b → (TX1 a).2.1 ≠ (TX1 b).2.1 := by decide +kernel
theorem tyX1_ok : ∀ k, k < 14 → parseFieldDescriptor (TX1 k).2.2.1 = some (tyX1 k) := by decide +kernel
abbrev cX1_init : ByteArray := prog_3_method_1_code
def yX1_init : MethodName := ⟨RX1, "<init>", "()V"⟩
abbrev cX1_copyFrom : ByteArray := prog_3_method_2_code
def yX1_copyFrom : MethodName := ⟨RX1, "copyFrom", "(LDictationBelt$State;)V"⟩
abbrev cX1_isRecording : ByteArray := prog_3_method_3_code
def yX1_isRecording : MethodName := ⟨RX1, "isRecording", "(I)Z"⟩
abbrev cX1_runningNumber : ByteArray := prog_3_method_4_code
def yX1_runningNumber : MethodName := ⟨RX1, "runningNumber", "()I"⟩
abbrev cX1_isFlagged : ByteArray := prog_3_method_5_code
def yX1_isFlagged : MethodName := ⟨RX1, "isFlagged", "(I)Z"⟩
abbrev cX1_putFlag : ByteArray := prog_3_method_6_code
def yX1_putFlag : MethodName := ⟨RX1, "putFlag", "(IZ)V"⟩
abbrev cX1_cellCount : ByteArray := prog_3_method_7_code
def yX1_cellCount : MethodName := ⟨RX1, "cellCount", "(I)I"⟩
abbrev cX1_cellAt : ByteArray := prog_3_method_8_code
def yX1_cellAt : MethodName := ⟨RX1, "cellAt", "(II)I"⟩
abbrev cX1_mayBegin : ByteArray := prog_3_method_9_code
def yX1_mayBegin : MethodName := ⟨RX1, "mayBegin", "()Z"⟩
abbrev cX1_beginRecording : ByteArray := prog_3_method_10_code
def yX1_beginRecording : MethodName := ⟨RX1, "beginRecording", "()I"⟩
abbrev cX1_stopRecording : ByteArray := prog_3_method_11_code
def yX1_stopRecording : MethodName := ⟨RX1, "stopRecording", "()I"⟩
abbrev cX1_eraseRecording : ByteArray := prog_3_method_12_code
def yX1_eraseRecording : MethodName := ⟨RX1, "eraseRecording", "(I)I"⟩
abbrev cX1_removeRecording : ByteArray := prog_3_method_13_code
def yX1_removeRecording : MethodName := ⟨RX1, "removeRecording", "(I)V"⟩
abbrev cX1_dropFreeCells : ByteArray := prog_3_method_14_code
def yX1_dropFreeCells : MethodName := ⟨RX1, "dropFreeCells", "()V"⟩
abbrev cX1_cellFromHead : ByteArray := prog_3_method_15_code
def yX1_cellFromHead : MethodName := ⟨RX1, "cellFromHead", "(I)I"⟩
abbrev cX1_isWritable : ByteArray := prog_3_method_16_code
def yX1_isWritable : MethodName := ⟨RX1, "isWritable", "(I)Z"⟩
abbrev cX1_writableCells : ByteArray := prog_3_method_17_code
def yX1_writableCells : MethodName := ⟨RX1, "writableCells", "()I"⟩
abbrev cX1_firstWritable : ByteArray := prog_3_method_18_code
def yX1_firstWritable : MethodName := ⟨RX1, "firstWritable", "()I"⟩
abbrev cX1_firstLoser : ByteArray := prog_3_method_19_code
def yX1_firstLoser : MethodName := ⟨RX1, "firstLoser", "()I"⟩
abbrev cX1_lossAfter : ByteArray := prog_3_method_20_code
def yX1_lossAfter : MethodName := ⟨RX1, "lossAfter", "(II)I"⟩
abbrev cX1_maySpeak : ByteArray := prog_3_method_21_code
def yX1_maySpeak : MethodName := ⟨RX1, "maySpeak", "(I)Z"⟩
abbrev cX1_speakTimes : ByteArray := prog_3_method_22_code
def yX1_speakTimes : MethodName := ⟨RX1, "speakTimes", "(II)I"⟩
abbrev cX1_loseCell : ByteArray := prog_3_method_23_code
def yX1_loseCell : MethodName := ⟨RX1, "loseCell", "(I)V"⟩
abbrev cX1_cellsBefore : ByteArray := prog_3_method_24_code
def yX1_cellsBefore : MethodName := ⟨RX1, "cellsBefore", "(I)I"⟩
abbrev cX1_writeCell : ByteArray := prog_3_method_25_code
def yX1_writeCell : MethodName := ⟨RX1, "writeCell", "(II)V"⟩
abbrev cX1_bringPlayer : ByteArray := prog_3_method_26_code
def yX1_bringPlayer : MethodName := ⟨RX1, "bringPlayer", "(I)V"⟩
abbrev cX1_playCell : ByteArray := prog_3_method_27_code
def yX1_playCell : MethodName := ⟨RX1, "playCell", "()I"⟩
abbrev cX1_stepBack : ByteArray := prog_3_method_28_code
def yX1_stepBack : MethodName := ⟨RX1, "stepBack", "(I)I"⟩
abbrev cX1_correctedCells : ByteArray := prog_3_method_29_code
def yX1_correctedCells : MethodName := ⟨RX1, "correctedCells", "()I"⟩
def RX2 : String := "DictationBelt"
def TX2 : u_T := fun k => match k with
  | 0 => ("DictationBelt", "now", "LDictationBelt$State;", true)
  | 1 => ("DictationBelt", "saved", "[LDictationBelt$State;", true)
  | 2 => ("DictationBelt", "nextSlot", "I", false)
  | 3 => ("DictationBelt", "savedCount", "I", false)
  | _ => ("DictationBelt", "text", "LDictationBelt$OrderText;", true)
def tyX2 : Nat → FieldType := fun k => match k with
  | 0 => .object "DictationBelt$State"
  | 1 => .array (.object "DictationBelt$State")
  | 2 => .int
  | 3 => .int
  | _ => .object "DictationBelt$OrderText"
abbrev wsX20 : List Cond := u_ws RX2 TX2 5
theorem nmX2 : ∀ a, a < 5 → ∀ b, b < 5 → a ≠ b → (TX2 a).2.1 ≠ (TX2 b).2.1 := by decide +kernel
theorem tyX2_ok : ∀ k, k < 5 → parseFieldDescriptor (TX2 k).2.2.1 = some (tyX2 k) := by decide +kernel
abbrev cX2_init : ByteArray := prog_1_method_1_code
def yX2_init : MethodName := ⟨RX2, "<init>", "()V"⟩
abbrev cX2_begin : ByteArray := prog_1_method_2_code
def yX2_begin : MethodName := ⟨RX2, "begin", "()I"⟩
abbrev cX2_halt : ByteArray := prog_1_method_3_code
def yX2_halt : MethodName := ⟨RX2, "halt", "()I"⟩
abbrev cX2_speak : ByteArray := prog_1_method_4_code
def yX2_speak : MethodName := ⟨RX2, "speak", "(I)I"⟩
abbrev cX2_setFlag : ByteArray := prog_1_method_5_code
def yX2_setFlag : MethodName := ⟨RX2, "setFlag", "(IZ)Z"⟩
abbrev cX2_erase : ByteArray := prog_1_method_6_code
def yX2_erase : MethodName := ⟨RX2, "erase", "(I)I"⟩
abbrev cX2_moveHead : ByteArray := prog_1_method_7_code
def yX2_moveHead : MethodName := ⟨RX2, "moveHead", "(I)I"⟩
abbrev cX2_recordings : ByteArray := prog_1_method_8_code
def yX2_recordings : MethodName := ⟨RX2, "recordings", "()I"⟩
abbrev cX2_running : ByteArray := prog_1_method_9_code
def yX2_running : MethodName := ⟨RX2, "running", "()I"⟩
abbrev cX2_head : ByteArray := prog_1_method_10_code
def yX2_head : MethodName := ⟨RX2, "head", "()I"⟩
abbrev cX2_length : ByteArray := prog_1_method_11_code
def yX2_length : MethodName := ⟨RX2, "length", "(I)I"⟩
abbrev cX2_sound : ByteArray := prog_1_method_12_code
def yX2_sound : MethodName := ⟨RX2, "sound", "(II)I"⟩
abbrev cX2_cellOf : ByteArray := prog_1_method_13_code
def yX2_cellOf : MethodName := ⟨RX2, "cellOf", "(II)I"⟩
abbrev cX2_hasFlag : ByteArray := prog_1_method_14_code
def yX2_hasFlag : MethodName := ⟨RX2, "hasFlag", "(I)Z"⟩
abbrev cX2_lost : ByteArray := prog_1_method_15_code
def yX2_lost : MethodName := ⟨RX2, "lost", "(I)I"⟩
abbrev cX2_owner : ByteArray := prog_1_method_16_code
def yX2_owner : MethodName := ⟨RX2, "owner", "(I)I"⟩
abbrev cX2_free : ByteArray := prog_1_method_17_code
def yX2_free : MethodName := ⟨RX2, "free", "()I"⟩
abbrev cX2_spoken : ByteArray := prog_1_method_18_code
def yX2_spoken : MethodName := ⟨RX2, "spoken", "()I"⟩
abbrev cX2_gone : ByteArray := prog_1_method_19_code
def yX2_gone : MethodName := ⟨RX2, "gone", "()I"⟩
abbrev cX2_usedShare : ByteArray := prog_1_method_20_code
def yX2_usedShare : MethodName := ⟨RX2, "usedShare", "()D"⟩
abbrev cX2_go : ByteArray := prog_1_method_21_code
def yX2_go : MethodName := ⟨RX2, "go", "(I)I"⟩
abbrev cX2_play : ByteArray := prog_1_method_22_code
def yX2_play : MethodName := ⟨RX2, "play", "()I"⟩
abbrev cX2_back : ByteArray := prog_1_method_23_code
def yX2_back : MethodName := ⟨RX2, "back", "(I)I"⟩
abbrev cX2_playing : ByteArray := prog_1_method_24_code
def yX2_playing : MethodName := ⟨RX2, "playing", "()I"⟩
abbrev cX2_place : ByteArray := prog_1_method_25_code
def yX2_place : MethodName := ⟨RX2, "place", "()I"⟩
abbrev cX2_correct : ByteArray := prog_1_method_26_code
def yX2_correct : MethodName := ⟨RX2, "correct", "(III)I"⟩
abbrev cX2_carbon : ByteArray := prog_1_method_27_code
def yX2_carbon : MethodName := ⟨RX2, "carbon", "(II)I"⟩
abbrev cX2_corrected : ByteArray := prog_1_method_28_code
def yX2_corrected : MethodName := ⟨RX2, "corrected", "()I"⟩
abbrev cX2_room : ByteArray := prog_1_method_29_code
def yX2_room : MethodName := ⟨RX2, "room", "()I"⟩
abbrev cX2_nextLoser : ByteArray := prog_1_method_30_code
def yX2_nextLoser : MethodName := ⟨RX2, "nextLoser", "()I"⟩
abbrev cX2_lossOf : ByteArray := prog_1_method_31_code
def yX2_lossOf : MethodName := ⟨RX2, "lossOf", "(II)I"⟩
abbrev cX2_goneAfter : ByteArray := prog_1_method_32_code
def yX2_goneAfter : MethodName := ⟨RX2, "goneAfter", "(I)I"⟩
abbrev cX2_undo : ByteArray := prog_1_method_37_code
def yX2_undo : MethodName := ⟨RX2, "undo", "()I"⟩
abbrev cX2_savedStates : ByteArray := prog_1_method_38_code
def yX2_savedStates : MethodName := ⟨RX2, "savedStates", "()I"⟩
abbrev cX2_digest : ByteArray := prog_1_method_39_code
def yX2_digest : MethodName := ⟨RX2, "digest", "()J"⟩
abbrev cX2_withRecording : ByteArray := prog_1_method_40_code
def yX2_withRecording : MethodName := ⟨RX2, "withRecording", "(JI)J"⟩
abbrev cX2_mixed : ByteArray := prog_1_method_41_code
def yX2_mixed : MethodName := ⟨RX2, "mixed", "(JJ)J"⟩
abbrev cX2_save : ByteArray := prog_1_method_42_code
def yX2_save : MethodName := ⟨RX2, "save", "()V"⟩
abbrev cX2_slotAt : ByteArray := prog_1_method_43_code
def yX2_slotAt : MethodName := ⟨RX2, "slotAt", "(I)LDictationBelt$State;"⟩
abbrev cX2_requireRecording : ByteArray := prog_1_method_47_code
def yX2_requireRecording : MethodName := ⟨RX2, "requireRecording", "(I)V"⟩
abbrev cX2_requirePlace : ByteArray := prog_1_method_48_code
def yX2_requirePlace : MethodName := ⟨RX2, "requirePlace", "(II)V"⟩
abbrev cX2_requirePlayer : ByteArray := prog_1_method_49_code
def yX2_requirePlayer : MethodName := ⟨RX2, "requirePlayer", "()V"⟩
abbrev cX2_requireCell : ByteArray := prog_1_method_50_code
def yX2_requireCell : MethodName := ⟨RX2, "requireCell", "(I)V"⟩
abbrev cX2_requireSound : ByteArray := prog_1_method_51_code
def yX2_requireSound : MethodName := ⟨RX2, "requireSound", "(I)V"⟩
abbrev cX2_requireForecast : ByteArray := prog_1_method_52_code
def yX2_requireForecast : MethodName := ⟨RX2, "requireForecast", "(I)V"⟩
abbrev cX2_valueAt : ByteArray := prog_1_method_53_code
def yX2_valueAt : MethodName := ⟨RX2, "valueAt", "([II)I"⟩
abbrev cX2_putAt : ByteArray := prog_1_method_54_code
def yX2_putAt : MethodName := ⟨RX2, "putAt", "([III)V"⟩
def RX3 : String := "DictationBeltModel"
def TX3 : u_T := fun k => match k with
  | _ => ("", "", "", false)
def tyX3 : Nat → FieldType := fun k => match k with
  | _ => .int
abbrev wsX30 : List Cond := u_ws RX3 TX3 0
theorem nmX3 : ∀ a, a < 0 → ∀ b, b < 0 → a ≠ b → (TX3 a).2.1 ≠ (TX3 b).2.1 := by decide +kernel
theorem tyX3_ok : ∀ k, k < 0 → parseFieldDescriptor (TX3 k).2.2.1 = some (tyX3 k) := by decide +kernel
def RJ9 : String := "java/lang/Math"
def TJ9 : u_T := fun k => match k with
  | _ => ("", "", "", false)
def tyJ9 : Nat → FieldType := fun k => match k with
  | _ => .int
abbrev wsJ90 : List Cond := u_ws RJ9 TJ9 0
theorem nmJ9 : ∀ a, a < 0 → ∀ b, b < 0 → a ≠ b → (TJ9 a).2.1 ≠ (TJ9 b).2.1 := by decide +kernel
theorem tyJ9_ok : ∀ k, k < 0 → parseFieldDescriptor (TJ9 k).2.2.1 = some (tyJ9 k) := by decide +kernel
abbrev cJ9_max_7cf53 : ByteArray := prog_10_method_65_code
def yJ9_max_7cf53 : MethodName := ⟨RJ9, "max", "(II)I"⟩
def RJ0 : String := "java/lang/String"
def TJ0 : u_T := fun k => match k with
  | _ => ("", "", "", false)
def tyJ0 : Nat → FieldType := fun k => match k with
  | _ => .int
abbrev wsJ00 : List Cond := u_ws RJ0 TJ0 0
theorem nmJ0 : ∀ a, a < 0 → ∀ b, b < 0 → a ≠ b → (TJ0 a).2.1 ≠ (TJ0 b).2.1 := by decide +kernel
theorem tyJ0_ok : ∀ k, k < 0 → parseFieldDescriptor (TJ0 k).2.2.1 = some (tyJ0 k) := by decide +kernel
def RJ10 : String := "java/lang/System"
def TJ10 : u_T := fun k => match k with
  | _ => ("", "", "", false)
def tyJ10 : Nat → FieldType := fun k => match k with
  | _ => .int
abbrev wsJ100 : List Cond := u_ws RJ10 TJ10 0
theorem nmJ10 : ∀ a, a < 0 → ∀ b, b < 0 → a ≠ b → (TJ10 a).2.1 ≠ (TJ10 b).2.1 := by decide +kernel
theorem tyJ10_ok : ∀ k, k < 0 → parseFieldDescriptor (TJ10 k).2.2.1 = some (tyJ10 k) := by decide +kernel
def RL : String := "DictationBeltLaw"
abbrev cL_cell : ByteArray := method_2_code
def yL_cell : MethodName := ⟨RL, "cell", "([II)I"⟩
abbrev cL_up : ByteArray := method_3_code
def yL_up : MethodName := ⟨RL, "up", "(II)I"⟩
abbrev cL_talk : ByteArray := method_4_code
def yL_talk : MethodName := ⟨RL, "talk", "(LDictationBelt;I)J"⟩
abbrev cL_isWritable : ByteArray := method_5_code
def yL_isWritable : MethodName := ⟨RL, "isWritable", "(LDictationBelt;I)Z"⟩
abbrev cL_speaks : ByteArray := method_6_code
def yL_speaks : MethodName := ⟨RL, "speaks", "(LDictationBelt;I)Z"⟩
abbrev cL_acts : ByteArray := method_7_code
def yL_acts : MethodName := ⟨RL, "acts", "(LDictationBelt;II)Z"⟩
abbrev cL_holds : ByteArray := method_8_code
def yL_holds : MethodName := ⟨RL, "holds", "(LDictationBelt;)Z"⟩
abbrev cL_isAhead : ByteArray := method_9_code
def yL_isAhead : MethodName := ⟨RL, "isAhead", "(LDictationBelt;I)Z"⟩
abbrev cL_law : ByteArray := code
def yL_law : MethodName := ⟨RL, "law", "([I)Z"⟩
def wsL_law0_r1 : List Cond := [Cond.classLink RL 12 RX2, Cond.instantiable RX2 5, Cond.initialized RX2, Cond.methodLink RL 131 yX2_init, Cond.instanceMethod yX2_init, Cond.code yX2_init cX2_init 2 none, Cond.methodLink RX2 1 objectInit, Cond.instanceMethod objectInit, Cond.code objectInit ⟨#[0xb1]⟩ 1 none, Cond.classLink RX2 7 RX1, Cond.instantiable RX1 14, Cond.initialized RX1, Cond.fieldLink RX2 10 "DictationBelt" "now" "LDictationBelt$State;", Cond.fieldLink RX2 16 "DictationBelt" "saved" "[LDictationBelt$State;", Cond.fieldLink RX2 20 "DictationBelt" "nextSlot" "I", Cond.fieldLink RX2 24 "DictationBelt" "savedCount" "I", Cond.classLink RX2 27 RX0, Cond.instantiable RX0 2, Cond.initialized RX0, Cond.fieldLink RX2 30 "DictationBelt" "text" "LDictationBelt$OrderText;", Cond.methodLink RX2 9 yX1_init, Cond.instanceMethod yX1_init, Cond.code yX1_init cX1_init 2 none, Cond.methodLink RX1 3 objectInit]
def wsL_law0_r2 : List Cond := [Cond.arrayClass .int, Cond.fieldLink RX1 9 "DictationBelt$State" "owners" "[I", Cond.fieldLink RX1 15 "DictationBelt$State" "sounds" "[I", Cond.fieldLink RX1 18 "DictationBelt$State" "carbons" "[I", Cond.fieldLink RX1 21 "DictationBelt$State" "order" "[I", Cond.fieldLink RX1 24 "DictationBelt$State" "used" "I", Cond.fieldLink RX1 28 "DictationBelt$State" "flags" "[I", Cond.fieldLink RX1 31 "DictationBelt$State" "losses" "[I", Cond.fieldLink RX1 34 "DictationBelt$State" "count" "I", Cond.fieldLink RX1 37 "DictationBelt$State" "isRunning" "Z", Cond.fieldLink RX1 41 "DictationBelt$State" "head" "I", Cond.fieldLink RX1 44 "DictationBelt$State" "spoken" "I", Cond.fieldLink RX1 47 "DictationBelt$State" "gone" "I", Cond.fieldLink RX1 50 "DictationBelt$State" "player" "I", Cond.fieldLink RX1 53 "DictationBelt$State" "place" "I", Cond.methodLink RX2 29 yX0_init, Cond.instanceMethod yX0_init, Cond.code yX0_init cX0_init 1 none, Cond.methodLink RX0 3 objectInit, Cond.fieldLink RX0 9 "DictationBelt$OrderText" "codes" "[I", Cond.fieldLink RX0 15 "DictationBelt$OrderText" "length" "I", Cond.methodLink RL 132 yL_holds, Cond.static yL_holds, Cond.initialized RL]
def wsL_law0_r3 : List Cond := [Cond.code yL_holds cL_holds 12 (some .boolean), Cond.constantDouble RL 129 (4629700416936869888), Cond.methodLink RL 85 yX2_free, Cond.instanceMethod yX2_free, Cond.selects RX2 yX2_free yX2_free, Cond.code yX2_free cX2_free 1 (some .int), Cond.fieldLink RX2 129 "DictationBelt$State" "used" "I", Cond.methodLink RL 63 yX2_recordings, Cond.instanceMethod yX2_recordings, Cond.selects RX2 yX2_recordings yX2_recordings, Cond.code yX2_recordings cX2_recordings 1 (some .int), Cond.fieldLink RX2 99 "DictationBelt$State" "count" "I", Cond.methodLink RL 33 yX2_running, Cond.instanceMethod yX2_running, Cond.selects RX2 yX2_running yX2_running, Cond.code yX2_running cX2_running 1 (some .int), Cond.methodLink RX2 102 yX1_runningNumber, Cond.instanceMethod yX1_runningNumber, Cond.selects RX1 yX1_runningNumber yX1_runningNumber, Cond.code yX1_runningNumber cX1_runningNumber 1 (some .int), Cond.methodLink RL 11 yX2_length, Cond.instanceMethod yX2_length, Cond.selects RX2 yX2_length yX2_length, Cond.code yX2_length cX2_length 2 (some .int)]
def wsL_law0_r4 : List Cond := [Cond.methodLink RX2 75 yX2_requireRecording, Cond.instanceMethod yX2_requireRecording, Cond.selects RX2 yX2_requireRecording yX2_requireRecording, Cond.code yX2_requireRecording cX2_requireRecording 2 none, Cond.classLink RX2 279 "java/lang/IndexOutOfBoundsException", Cond.initialized "java/lang/IndexOutOfBoundsException", Cond.methodLink RX2 276 yX1_isRecording, Cond.instanceMethod yX1_isRecording, Cond.selects RX1 yX1_isRecording yX1_isRecording, Cond.code yX1_isRecording cX1_isRecording 2 (some .boolean), Cond.methodLink RX2 105 yX1_cellCount, Cond.instanceMethod yX1_cellCount, Cond.selects RX1 yX1_cellCount yX1_cellCount, Cond.code yX1_cellCount cX1_cellCount 4 (some .int), Cond.static yX2_valueAt, Cond.code yX2_valueAt cX2_valueAt 2 (some .int), Cond.methodLink RL 37 yX2_hasFlag, Cond.instanceMethod yX2_hasFlag, Cond.selects RX2 yX2_hasFlag yX2_hasFlag, Cond.code yX2_hasFlag cX2_hasFlag 2 (some .boolean), Cond.methodLink RX2 78 yX1_isFlagged, Cond.instanceMethod yX1_isFlagged, Cond.selects RX1 yX1_isFlagged yX1_isFlagged, Cond.code yX1_isFlagged cX1_isFlagged 2 (some .boolean)]
def wsL_law0_r5 : List Cond := [Cond.methodLink RL 20 yX2_cellOf, Cond.instanceMethod yX2_cellOf, Cond.selects RX2 yX2_cellOf yX2_cellOf, Cond.code yX2_cellOf cX2_cellOf 3 (some .int), Cond.methodLink RX2 108 yX2_requirePlace, Cond.instanceMethod yX2_requirePlace, Cond.selects RX2 yX2_requirePlace yX2_requirePlace, Cond.code yX2_requirePlace cX2_requirePlace 3 none, Cond.methodLink RX2 116 yX1_cellAt, Cond.instanceMethod yX1_cellAt, Cond.selects RX1 yX1_cellAt yX1_cellAt, Cond.code yX1_cellAt cX1_cellAt 6 (some .int), Cond.methodLink RL 30 yX2_owner, Cond.instanceMethod yX2_owner, Cond.selects RX2 yX2_owner yX2_owner, Cond.code yX2_owner cX2_owner 2 (some .int), Cond.fieldLink RX2 126 "DictationBelt$State" "owners" "[I", Cond.methodLink RX2 91 yX2_requireCell, Cond.static yX2_requireCell, Cond.code yX2_requireCell cX2_requireCell 1 none, Cond.methodLink RX2 119 yX2_valueAt, Cond.methodLink RL 24 yX2_sound, Cond.instanceMethod yX2_sound, Cond.selects RX2 yX2_sound yX2_sound]
def wsL_law0_r6 : List Cond := [Cond.code yX2_sound cX2_sound 3 (some .int), Cond.fieldLink RX2 112 "DictationBelt$State" "sounds" "[I", Cond.methodLink RL 27 yX2_carbon, Cond.instanceMethod yX2_carbon, Cond.selects RX2 yX2_carbon yX2_carbon, Cond.code yX2_carbon cX2_carbon 3 (some .int), Cond.fieldLink RX2 167 "DictationBelt$State" "carbons" "[I", Cond.methodLink RL 17 yX2_lost, Cond.instanceMethod yX2_lost, Cond.selects RX2 yX2_lost yX2_lost, Cond.code yX2_lost cX2_lost 2 (some .int), Cond.fieldLink RX2 123 "DictationBelt$State" "losses" "[I", Cond.methodLink RL 103 yX2_playing, Cond.instanceMethod yX2_playing, Cond.selects RX2 yX2_playing yX2_playing, Cond.code yX2_playing cX2_playing 1 (some .int), Cond.fieldLink RX2 157 "DictationBelt$State" "player" "I", Cond.methodLink RL 94 yX2_place, Cond.instanceMethod yX2_place, Cond.selects RX2 yX2_place yX2_place, Cond.code yX2_place cX2_place 1 (some .int), Cond.fieldLink RX2 160 "DictationBelt$State" "place" "I", Cond.methodLink RL 41 yX2_room, Cond.instanceMethod yX2_room]
def wsL_law0_r7 : List Cond := [Cond.selects RX2 yX2_room yX2_room, Cond.code yX2_room cX2_room 1 (some .int), Cond.methodLink RX2 173 yX1_writableCells, Cond.instanceMethod yX1_writableCells, Cond.selects RX1 yX1_writableCells yX1_writableCells, Cond.code yX1_writableCells cX1_writableCells 3 (some .int), Cond.methodLink RX1 88 yX1_isWritable, Cond.instanceMethod yX1_isWritable, Cond.selects RX1 yX1_isWritable yX1_isWritable, Cond.code yX1_isWritable cX1_isWritable 3 (some .boolean), Cond.methodLink RX1 70 yX1_runningNumber, Cond.methodLink RL 119 yX2_corrected, Cond.instanceMethod yX2_corrected, Cond.selects RX2 yX2_corrected yX2_corrected, Cond.code yX2_corrected cX2_corrected 1 (some .int), Cond.methodLink RX2 170 yX1_correctedCells, Cond.instanceMethod yX1_correctedCells, Cond.selects RX1 yX1_correctedCells yX1_correctedCells, Cond.code yX1_correctedCells cX1_correctedCells 3 (some .int), Cond.methodLink RL 122 yX2_nextLoser, Cond.instanceMethod yX2_nextLoser, Cond.selects RX2 yX2_nextLoser yX2_nextLoser, Cond.code yX2_nextLoser cX2_nextLoser 1 (some .int), Cond.methodLink RX2 176 yX1_firstLoser]
def wsL_law0_r8 : List Cond := [Cond.instanceMethod yX1_firstLoser, Cond.selects RX1 yX1_firstLoser yX1_firstLoser, Cond.code yX1_firstLoser cX1_firstLoser 4 (some .int), Cond.methodLink RX1 92 yX1_cellFromHead, Cond.instanceMethod yX1_cellFromHead, Cond.selects RX1 yX1_cellFromHead yX1_cellFromHead, Cond.code yX1_cellFromHead cX1_cellFromHead 2 (some .int), Cond.methodLink RL 125 yX2_usedShare, Cond.instanceMethod yX2_usedShare, Cond.selects RX2 yX2_usedShare yX2_usedShare, Cond.code yX2_usedShare cX2_usedShare 1 (some .double), Cond.constantDouble RX2 138 (4629700416936869888), Cond.methodLink RL 136 yL_cell, Cond.static yL_cell, Cond.code yL_cell cL_cell 2 (some .int), Cond.constant RL 7 (1812433253), Cond.methodLink RL 140 yX2_digest, Cond.instanceMethod yX2_digest, Cond.selects RX2 yX2_digest yX2_digest, Cond.code yX2_digest cX2_digest 4 (some .long), Cond.constantLong RX2 216 (4444), Cond.methodLink RX2 218 yX2_recordings, Cond.methodLink RX2 221 yX2_mixed, Cond.static yX2_mixed]
def wsL_law0_r9 : List Cond := [Cond.code yX2_mixed cX2_mixed 4 (some .long), Cond.constantLong RX2 258 (31), Cond.methodLink RX2 225 yX2_running, Cond.methodLink RX2 228 yX2_head, Cond.instanceMethod yX2_head, Cond.selects RX2 yX2_head yX2_head, Cond.code yX2_head cX2_head 1 (some .int), Cond.fieldLink RX2 96 "DictationBelt$State" "head" "I", Cond.methodLink RX2 230 yX2_free, Cond.methodLink RX2 233 yX2_spoken, Cond.instanceMethod yX2_spoken, Cond.selects RX2 yX2_spoken yX2_spoken, Cond.code yX2_spoken cX2_spoken 1 (some .int), Cond.fieldLink RX2 132 "DictationBelt$State" "spoken" "I", Cond.methodLink RX2 235 yX2_gone, Cond.instanceMethod yX2_gone, Cond.selects RX2 yX2_gone yX2_gone, Cond.code yX2_gone cX2_gone 1 (some .int), Cond.fieldLink RX2 135 "DictationBelt$State" "gone" "I", Cond.methodLink RX2 237 yX2_playing, Cond.methodLink RX2 240 yX2_place, Cond.methodLink RX2 242 yX2_corrected, Cond.methodLink RX2 245 yX2_room, Cond.methodLink RX2 248 yX2_nextLoser]
def wsL_law0_r10_a : List Cond := [Cond.methodLink RX2 251 yX2_withRecording, Cond.instanceMethod yX2_withRecording, Cond.selects RX2 yX2_withRecording yX2_withRecording, Cond.code yX2_withRecording cX2_withRecording 8 (some .long), Cond.fieldLink RX2 255 "DictationBelt$State" "order" "[I", Cond.methodLink RL 144 yX2_savedStates, Cond.instanceMethod yX2_savedStates, Cond.selects RX2 yX2_savedStates yX2_savedStates, Cond.code yX2_savedStates cX2_savedStates 1 (some .int), Cond.methodLink RL 147 yL_acts, Cond.static yL_acts]
def wsL_law0_r10_b : List Cond := [Cond.methodLink RL 79 yX2_begin, Cond.instanceMethod yX2_begin, Cond.selects RX2 yX2_begin yX2_begin, Cond.code yX2_begin cX2_begin 1 (some .int), Cond.classLink RX2 38 "java/lang/IllegalStateException", Cond.initialized "java/lang/IllegalStateException", Cond.methodLink RX2 34 yX1_mayBegin, Cond.instanceMethod yX1_mayBegin, Cond.selects RX1 yX1_mayBegin yX1_mayBegin, Cond.code yX1_mayBegin cX1_mayBegin 1 (some .boolean), Cond.methodLink RX1 74 yX1_cellCount, Cond.methodLink RX2 45 yX2_save]
def wsL_law0_r10 : List Cond := wsL_law0_r10_a ++ (Cond.code yL_acts cL_acts 20 (some .boolean) :: wsL_law0_r10_b)
def wsL_law0_r11 : List Cond := [Cond.instanceMethod yX2_save, Cond.selects RX2 yX2_save yX2_save, Cond.code yX2_save cX2_save 2 none, Cond.methodLink RX2 208 yX2_slotAt, Cond.instanceMethod yX2_slotAt, Cond.selects RX2 yX2_slotAt yX2_slotAt, Cond.code yX2_slotAt cX2_slotAt 2 (some (.object "DictationBelt$State")), Cond.methodLink RX2 212 yX1_copyFrom, Cond.instanceMethod yX1_copyFrom, Cond.selects RX1 yX1_copyFrom yX1_copyFrom, Cond.code yX1_copyFrom cX1_copyFrom 2 none, Cond.methodLink RX1 56 arraycopyName, Cond.native arraycopyName, Cond.static arraycopyName, Cond.initialized "java/lang/System", Cond.methodLink RX2 48 yX1_beginRecording, Cond.instanceMethod yX1_beginRecording, Cond.selects RX1 yX1_beginRecording yX1_beginRecording, Cond.code yX1_beginRecording cX1_beginRecording 2 (some .int), Cond.methodLink RX1 78 yX1_stopRecording, Cond.instanceMethod yX1_stopRecording, Cond.selects RX1 yX1_stopRecording yX1_stopRecording, Cond.code yX1_stopRecording cX1_stopRecording 3 (some .int), Cond.methodLink RX1 81 yX1_removeRecording]
def wsL_law0_r12 : List Cond := [Cond.instanceMethod yX1_removeRecording, Cond.selects RX1 yX1_removeRecording yX1_removeRecording, Cond.code yX1_removeRecording cX1_removeRecording 4 none, Cond.static yX2_putAt, Cond.code yX2_putAt cX2_putAt 3 none, Cond.methodLink RL 82 yL_up, Cond.static yL_up, Cond.code yL_up cL_up 2 (some .int), Cond.constant RL 8 (2147483647), Cond.methodLink RL 44 yX2_setFlag, Cond.instanceMethod yX2_setFlag, Cond.selects RX2 yX2_setFlag yX2_setFlag, Cond.code yX2_setFlag cX2_setFlag 4 (some .boolean), Cond.methodLink RX2 81 yX1_putFlag, Cond.instanceMethod yX1_putFlag, Cond.selects RX1 yX1_putFlag yX1_putFlag, Cond.code yX1_putFlag cX1_putFlag 3 none, Cond.methodLink RL 88 yX2_erase, Cond.instanceMethod yX2_erase, Cond.selects RX2 yX2_erase yX2_erase, Cond.code yX2_erase cX2_erase 2 (some .int), Cond.methodLink RX2 87 yX1_eraseRecording, Cond.instanceMethod yX1_eraseRecording, Cond.selects RX1 yX1_eraseRecording yX1_eraseRecording]
def wsL_law0_r13 : List Cond := [Cond.code yX1_eraseRecording cX1_eraseRecording 4 (some .int), Cond.methodLink RX1 85 yX1_dropFreeCells, Cond.instanceMethod yX1_dropFreeCells, Cond.selects RX1 yX1_dropFreeCells yX1_dropFreeCells, Cond.code yX1_dropFreeCells cX1_dropFreeCells 4 none, Cond.methodLink RL 91 yX2_go, Cond.instanceMethod yX2_go, Cond.selects RX2 yX2_go yX2_go, Cond.code yX2_go cX2_go 2 (some .int), Cond.methodLink RX2 140 yX1_bringPlayer, Cond.instanceMethod yX1_bringPlayer, Cond.selects RX1 yX1_bringPlayer yX1_bringPlayer, Cond.code yX1_bringPlayer cX1_bringPlayer 2 none, Cond.methodLink RL 97 yX2_halt, Cond.instanceMethod yX2_halt, Cond.selects RX2 yX2_halt yX2_halt, Cond.code yX2_halt cX2_halt 1 (some .int), Cond.fieldLink RX2 52 "DictationBelt$State" "isRunning" "Z", Cond.methodLink RX2 58 yX1_stopRecording, Cond.methodLink RL 48 yX2_head, Cond.methodLink RL 100 yX2_moveHead, Cond.instanceMethod yX2_moveHead, Cond.selects RX2 yX2_moveHead yX2_moveHead, Cond.code yX2_moveHead cX2_moveHead 3 (some .int)]
def wsL_law0_r14 : List Cond := [Cond.methodLink RL 106 yX2_play, Cond.instanceMethod yX2_play, Cond.selects RX2 yX2_play yX2_play, Cond.code yX2_play cX2_play 1 (some .int), Cond.methodLink RX2 143 yX2_requirePlayer, Cond.instanceMethod yX2_requirePlayer, Cond.selects RX2 yX2_requirePlayer yX2_requirePlayer, Cond.code yX2_requirePlayer cX2_requirePlayer 1 none, Cond.methodLink RX2 146 yX1_playCell, Cond.instanceMethod yX1_playCell, Cond.selects RX1 yX1_playCell yX1_playCell, Cond.code yX1_playCell cX1_playCell 2 (some .int), Cond.methodLink RX1 111 yX1_cellAt, Cond.methodLink RL 109 yX2_back, Cond.instanceMethod yX2_back, Cond.selects RX2 yX2_back yX2_back, Cond.code yX2_back cX2_back 2 (some .int), Cond.classLink RX2 149 "java/lang/IllegalArgumentException", Cond.initialized "java/lang/IllegalArgumentException", Cond.methodLink RX2 154 yX1_stepBack, Cond.instanceMethod yX1_stepBack, Cond.selects RX1 yX1_stepBack yX1_stepBack, Cond.code yX1_stepBack cX1_stepBack 2 (some .int), Cond.methodLink RX1 115 Lib.Math.max.name]
def wsL_law0_r15 : List Cond := [Cond.static Lib.Math.max.name, Cond.initialized "java/lang/Math", Cond.code Lib.Math.max.name Lib.Math.max.code 2 (some .int), Cond.methodLink RL 112 yX2_correct, Cond.instanceMethod yX2_correct, Cond.selects RX2 yX2_correct yX2_correct, Cond.code yX2_correct cX2_correct 6 (some .int), Cond.methodLink RX2 61 yX2_requireSound, Cond.static yX2_requireSound, Cond.code yX2_requireSound cX2_requireSound 1 none, Cond.methodLink RX2 163 yX2_putAt, Cond.methodLink RL 116 yL_speaks, Cond.static yL_speaks, Cond.code yL_speaks cL_speaks 17 (some .boolean), Cond.arrayClass .long, Cond.methodLink RL 51 yL_isWritable, Cond.static yL_isWritable, Cond.code yL_isWritable cL_isWritable 3 (some .boolean), Cond.methodLink RL 57 yX2_gone, Cond.methodLink RL 60 yX2_spoken, Cond.methodLink RL 66 yX2_goneAfter, Cond.instanceMethod yX2_goneAfter, Cond.selects RX2 yX2_goneAfter yX2_goneAfter, Cond.code yX2_goneAfter cX2_goneAfter 5 (some .int)]
def wsL_law0_r16 : List Cond := [Cond.methodLink RX2 179 yX2_requireForecast, Cond.static yX2_requireForecast, Cond.code yX2_requireForecast cX2_requireForecast 1 none, Cond.methodLink RX2 182 yX1_lossAfter, Cond.instanceMethod yX1_lossAfter, Cond.selects RX1 yX1_lossAfter yX1_lossAfter, Cond.code yX1_lossAfter cX1_lossAfter 7 (some .int), Cond.methodLink RL 69 yX2_lossOf, Cond.instanceMethod yX2_lossOf, Cond.selects RX2 yX2_lossOf yX2_lossOf, Cond.code yX2_lossOf cX2_lossOf 3 (some .int), Cond.methodLink RL 72 yL_talk, Cond.static yL_talk, Cond.code yL_talk cL_talk 5 (some .long), Cond.constantLong RL 9 (31), Cond.methodLink RL 76 yX2_speak, Cond.instanceMethod yX2_speak, Cond.selects RX2 yX2_speak yX2_speak, Cond.code yX2_speak cX2_speak 2 (some .int), Cond.methodLink RX2 65 yX1_maySpeak, Cond.instanceMethod yX1_maySpeak, Cond.selects RX1 yX1_maySpeak yX1_maySpeak, Cond.code yX1_maySpeak cX1_maySpeak 2 (some .boolean), Cond.methodLink RX1 95 yX1_writableCells]
def wsL_law0_r17 : List Cond := [Cond.methodLink RX2 71 yX1_speakTimes, Cond.instanceMethod yX1_speakTimes, Cond.selects RX1 yX1_speakTimes yX1_speakTimes, Cond.code yX1_speakTimes cX1_speakTimes 5 (some .int), Cond.methodLink RX1 98 yX1_firstWritable, Cond.instanceMethod yX1_firstWritable, Cond.selects RX1 yX1_firstWritable yX1_firstWritable, Cond.code yX1_firstWritable cX1_firstWritable 3 (some .int), Cond.methodLink RX1 101 yX1_loseCell, Cond.instanceMethod yX1_loseCell, Cond.selects RX1 yX1_loseCell yX1_loseCell, Cond.code yX1_loseCell cX1_loseCell 3 none, Cond.methodLink RX1 108 yX1_cellsBefore, Cond.instanceMethod yX1_cellsBefore, Cond.selects RX1 yX1_cellsBefore yX1_cellsBefore, Cond.code yX1_cellsBefore cX1_cellsBefore 6 (some .int), Cond.methodLink RX1 104 yX1_writeCell, Cond.instanceMethod yX1_writeCell, Cond.selects RX1 yX1_writeCell yX1_writeCell, Cond.code yX1_writeCell cX1_writeCell 3 none, Cond.methodLink RL 151 yX2_undo, Cond.instanceMethod yX2_undo, Cond.selects RX2 yX2_undo yX2_undo, Cond.code yX2_undo cX2_undo 2 (some .int)]
def wsL_law0_r18 : List Cond := [Cond.methodLink RL 154 yL_isAhead, Cond.static yL_isAhead, Cond.code yL_isAhead cL_isAhead 8 (some .boolean)]
def wsL_law0 : List Cond := (wsL_law0_r1 ++ (wsL_law0_r2 ++ (wsL_law0_r3 ++ (wsL_law0_r4 ++ (wsL_law0_r5 ++ (wsL_law0_r6 ++ (wsL_law0_r7 ++ (wsL_law0_r8 ++ (wsL_law0_r9 ++ (wsL_law0_r10 ++ (wsL_law0_r11 ++ (wsL_law0_r12 ++ (wsL_law0_r13 ++ (wsL_law0_r14 ++ (wsL_law0_r15 ++ (wsL_law0_r16 ++ (wsL_law0_r17 ++ wsL_law0_r18))))))))))))))))) ++ wsX20 ++ wsX10 ++ wsX00 ++ ([] : List Cond)
def wsL_law : List Cond := wsL_law0 ++ (vx_atS RX2 283 "java/lang/IndexOutOfBoundsException" ["java/lang/RuntimeException", "java/lang/Exception"]).filter goodWord ++ (vx_atS RX2 42 "java/lang/IllegalStateException" ["java/lang/RuntimeException", "java/lang/Exception"]).filter goodWord ++ (vx_atS RX2 153 "java/lang/IllegalArgumentException" ["java/lang/RuntimeException", "java/lang/Exception"]).filter goodWord
set_option maxRecDepth 20000 in
theorem wsL_law0_r1_in : ∀ w ∈ wsL_law0_r1, w ∈ lw_tbl := fun w h => (goodIn_p wsL_law0_r1 [23, 26, 31] (by decide +kernel) (by decide +kernel) w h).1
set_option maxRecDepth 20000 in
theorem wsL_law0_r2_in : ∀ w ∈ wsL_law0_r2, w ∈ lw_tbl := fun w h => (goodIn_p wsL_law0_r2 [95] (by decide +kernel) (by decide +kernel) w h).1
set_option maxRecDepth 20000 in
theorem wsL_law0_r3_in : ∀ w ∈ wsL_law0_r3, w ∈ lw_tbl := fun w h => (goodIn_p wsL_law0_r3 [564, 251, 234, 242, 138, 318] (by decide +kernel) (by decide +kernel) w h).1
set_option maxRecDepth 20000 in
theorem wsL_law0_r4_in : ∀ w ∈ wsL_law0_r4, w ∈ lw_tbl := fun w h => (goodIn_p wsL_law0_r4 [322, 326, 296, 134, 375, 300] (by decide +kernel) (by decide +kernel) w h).1
set_option maxRecDepth 20000 in
theorem wsL_law0_r5_in : ∀ w ∈ wsL_law0_r5, w ∈ lw_tbl := fun w h => (goodIn_p wsL_law0_r5 [530, 431, 436, 500, 420] (by decide +kernel) (by decide +kernel) w h).1
set_option maxRecDepth 20000 in
theorem wsL_law0_r6_in : ∀ w ∈ wsL_law0_r6, w ∈ lw_tbl := fun w h => (goodIn_p wsL_law0_r6 [427, 481, 526, 263, 267] (by decide +kernel) (by decide +kernel) w h).1
set_option maxRecDepth 20000 in
theorem wsL_law0_r7_in : ∀ w ∈ wsL_law0_r7, w ∈ lw_tbl := fun w h => (goodIn_p wsL_law0_r7 [123, 127, 131, 271, 275, 280] (by decide +kernel) (by decide +kernel) w h).1
set_option maxRecDepth 20000 in
theorem wsL_law0_r8_in : ∀ w ∈ wsL_law0_r8, w ∈ lw_tbl := fun w h => (goodIn_p wsL_law0_r8 [284, 288, 570, 304, 229] (by decide +kernel) (by decide +kernel) w h).1
set_option maxRecDepth 20000 in
theorem wsL_law0_r9_in : ∀ w ∈ wsL_law0_r9, w ∈ lw_tbl := fun w h => (goodIn_p wsL_law0_r9 [237, 247, 255, 259] (by decide +kernel) (by decide +kernel) w h).1
set_option maxRecDepth 20000 in
theorem wsL_law0_r10_a_in : ∀ w ∈ wsL_law0_r10_a, w ∈ lw_tbl := fun w h => (goodIn_p wsL_law0_r10_a [292, 225] (by decide +kernel) (by decide +kernel) w h).1
set_option maxRecDepth 20000 in
theorem wsL_law0_r10_b_in : ∀ w ∈ wsL_law0_r10_b, w ∈ lw_tbl := fun w h => (goodIn_p wsL_law0_r10_b [346, 350] (by decide +kernel) (by decide +kernel) w h).1
set_option maxRecDepth 100000 in
theorem wsL_law0_r10_m : Cond.code yL_acts cL_acts 20 (some .boolean) ∈ lw_tbl := List.mem_of_getElem? (i := 312) rfl
theorem wsL_law0_r10_in : ∀ w ∈ wsL_law0_r10, w ∈ lw_tbl := List.forall_mem_append.mpr ⟨wsL_law0_r10_a_in, List.forall_mem_cons.mpr ⟨wsL_law0_r10_m, wsL_law0_r10_b_in⟩⟩
set_option maxRecDepth 20000 in
theorem wsL_law0_r11_in : ∀ w ∈ wsL_law0_r11, w ∈ lw_tbl := fun w h => (goodIn_p wsL_law0_r11 [356, 214, 218, 360, 364] (by decide +kernel) (by decide +kernel) w h).1
set_option maxRecDepth 20000 in
theorem wsL_law0_r12_in : ∀ w ∈ wsL_law0_r12, w ∈ lw_tbl := fun w h => (goodIn_p wsL_law0_r12 [368, 371, 308, 380, 384, 388] (by decide +kernel) (by decide +kernel) w h).1
set_option maxRecDepth 20000 in
theorem wsL_law0_r13_in : ∀ w ∈ wsL_law0_r13, w ∈ lw_tbl := fun w h => (goodIn_p wsL_law0_r13 [393, 397, 401, 405, 410, 417] (by decide +kernel) (by decide +kernel) w h).1
set_option maxRecDepth 20000 in
theorem wsL_law0_r14_in : ∀ w ∈ wsL_law0_r14, w ∈ lw_tbl := fun w h => (goodIn_p wsL_law0_r14 [440, 444, 449, 454, 474] (by decide +kernel) (by decide +kernel) w h).1
set_option maxRecDepth 20000 in
theorem wsL_law0_r15_in : ∀ w ∈ wsL_law0_r15, w ∈ lw_tbl := fun w h => (goodIn_p wsL_law0_r15 [477, 485, 488, 493, 496, 506] (by decide +kernel) (by decide +kernel) w h).1
set_option maxRecDepth 20000 in
theorem wsL_law0_r16_in : ∀ w ∈ wsL_law0_r16, w ∈ lw_tbl := fun w h => (goodIn_p wsL_law0_r16 [509, 514, 518, 521, 534, 538] (by decide +kernel) (by decide +kernel) w h).1
set_option maxRecDepth 20000 in
theorem wsL_law0_r17_in : ∀ w ∈ wsL_law0_r17, w ∈ lw_tbl := fun w h => (goodIn_p wsL_law0_r17 [544, 548, 552, 556, 560, 142] (by decide +kernel) (by decide +kernel) w h).1
set_option maxRecDepth 20000 in
theorem wsL_law0_r18_in : ∀ w ∈ wsL_law0_r18, w ∈ lw_tbl := fun w h => (goodIn_p wsL_law0_r18 [575] (by decide +kernel) (by decide +kernel) w h).1
set_option maxRecDepth 20000 in
theorem wsX20_in : ∀ w ∈ wsX20, w ∈ lw_tbl := by decide +kernel
set_option maxRecDepth 20000 in
theorem wsX10_in : ∀ w ∈ wsX10, w ∈ lw_tbl := by decide +kernel
set_option maxRecDepth 20000 in
theorem wsX00_in : ∀ w ∈ wsX00, w ∈ lw_tbl := by decide +kernel
theorem wsL_law_in0 : ∀ w ∈ wsL_law0, w ∈ lw_tbl := List.forall_mem_append.mpr ⟨List.forall_mem_append.mpr ⟨List.forall_mem_append.mpr ⟨List.forall_mem_append.mpr ⟨List.forall_mem_append.mpr ⟨wsL_law0_r1_in, List.forall_mem_append.mpr ⟨wsL_law0_r2_in, List.forall_mem_append.mpr ⟨wsL_law0_r3_in, List.forall_mem_append.mpr ⟨wsL_law0_r4_in, List.forall_mem_append.mpr ⟨wsL_law0_r5_in, List.forall_mem_append.mpr ⟨wsL_law0_r6_in, List.forall_mem_append.mpr ⟨wsL_law0_r7_in, List.forall_mem_append.mpr ⟨wsL_law0_r8_in, List.forall_mem_append.mpr ⟨wsL_law0_r9_in, List.forall_mem_append.mpr ⟨wsL_law0_r10_in, List.forall_mem_append.mpr ⟨wsL_law0_r11_in, List.forall_mem_append.mpr ⟨wsL_law0_r12_in, List.forall_mem_append.mpr ⟨wsL_law0_r13_in, List.forall_mem_append.mpr ⟨wsL_law0_r14_in, List.forall_mem_append.mpr ⟨wsL_law0_r15_in, List.forall_mem_append.mpr ⟨wsL_law0_r16_in, List.forall_mem_append.mpr ⟨wsL_law0_r17_in, wsL_law0_r18_in⟩⟩⟩⟩⟩⟩⟩⟩⟩⟩⟩⟩⟩⟩⟩⟩⟩, wsX20_in⟩, wsX10_in⟩, wsX00_in⟩, fun _ h => absurd h List.not_mem_nil⟩
theorem wsL_law_x0 : ∀ w ∈ (vx_atS RX2 283 "java/lang/IndexOutOfBoundsException" ["java/lang/RuntimeException", "java/lang/Exception"]).filter goodWord, w ∈ lw_tbl := by decide +kernel
theorem wsL_law_x1 : ∀ w ∈ (vx_atS RX2 42 "java/lang/IllegalStateException" ["java/lang/RuntimeException", "java/lang/Exception"]).filter goodWord, w ∈ lw_tbl := by decide +kernel
theorem wsL_law_x2 : ∀ w ∈ (vx_atS RX2 153 "java/lang/IllegalArgumentException" ["java/lang/RuntimeException", "java/lang/Exception"]).filter goodWord, w ∈ lw_tbl := by decide +kernel
theorem wsL_law_in : ∀ w ∈ wsL_law, w ∈ lw_tbl := fun w h => (List.mem_append.mp h).elim (fun h => (List.mem_append.mp h).elim (fun h => (List.mem_append.mp h).elim (fun h => wsL_law_in0 w h) (fun h => wsL_law_x0 w h)) (fun h => wsL_law_x1 w h)) (fun h => wsL_law_x2 w h)
theorem inlX0 : ∀ w ∈ wsX00, w ∈ wsL_law := fun _ h => List.mem_append_left _ (List.mem_append_left _ (List.mem_append_left _ (List.mem_append_left _ (List.mem_append_right _ h))))
theorem inX0 : ∀ w ∈ wsX00, w ∈ lw_tbl := fun w h => wsL_law_in w (inlX0 w h)
theorem inlX1 : ∀ w ∈ wsX10, w ∈ wsL_law := fun _ h => List.mem_append_left _ (List.mem_append_left _ (List.mem_append_left _ (List.mem_append_left _ (List.mem_append_left _ (List.mem_append_right _ h)))))
theorem inX1 : ∀ w ∈ wsX10, w ∈ lw_tbl := fun w h => wsL_law_in w (inlX1 w h)
theorem inlX2 : ∀ w ∈ wsX20, w ∈ wsL_law := fun _ h => List.mem_append_left _ (List.mem_append_left _ (List.mem_append_left _ (List.mem_append_left _ (List.mem_append_left _ (List.mem_append_left _ (List.mem_append_right _ h))))))
theorem inX2 : ∀ w ∈ wsX20, w ∈ lw_tbl := fun w h => wsL_law_in w (inlX2 w h)
theorem inX3 : ∀ w ∈ wsX30, w ∈ lw_tbl := by decide +kernel
theorem inJ9 : ∀ w ∈ wsJ90, w ∈ lw_tbl := by decide +kernel
theorem inJ0 : ∀ w ∈ wsJ00, w ∈ lw_tbl := by decide +kernel
theorem inJ10 : ∀ w ∈ wsJ100, w ∈ lw_tbl := by decide +kernel
abbrev vwCl : List vw_C := [(RX0, TX0, 2), (RX1, TX1, 14), (RX2, TX2, 5)]
