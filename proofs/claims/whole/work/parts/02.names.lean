def RX0 : String := "DictationBelt$OrderText"
def TX0 : u_T := fun k => match k with
  | 0 => ("DictationBelt$OrderText", "codes", "[I", true)
  | _ => ("DictationBelt$OrderText", "length", "I", false)
def tyX0 : Nat → FieldType := fun k => match k with
  | 0 => .array .int
  | _ => .int
abbrev wsX00 : List Cond := u_ws RX0 TX0 2
theorem nmX0 : ∀ a, a < 2 → ∀ b, b < 2 → a ≠ b → (TX0 a).2.1 ≠ (TX0 b).2.1 := by decide +kernel
theorem tyX0_ok : ∀ k, k < 2 → parseFieldDescriptor (TX0 k).2.2.1 = some (tyX0 k) := by decide +kernel
abbrev cX0_init : ByteArray := prog_2_method_1_code
def yX0_init : MethodName := ⟨RX0, "<init>", "()V"⟩
abbrev cX0_add : ByteArray := prog_2_method_2_code
def yX0_add : MethodName := ⟨RX0, "add", "(I)V"⟩
abbrev cX0_errorIndex : ByteArray := prog_2_method_3_code
def yX0_errorIndex : MethodName := ⟨RX0, "errorIndex", "()I"⟩
abbrev cX0_isComplete : ByteArray := prog_2_method_4_code
def yX0_isComplete : MethodName := ⟨RX0, "isComplete", "()Z"⟩
abbrev cX0_stageAfter : ByteArray := prog_2_method_5_code
def yX0_stageAfter : MethodName := ⟨RX0, "stageAfter", "(II)I"⟩
abbrev cX0_stageAfterLetter : ByteArray := prog_2_method_6_code
def yX0_stageAfterLetter : MethodName := ⟨RX0, "stageAfterLetter", "(I)I"⟩
abbrev cX0_stageAfterFirstOfTimes : ByteArray := prog_2_method_7_code
def yX0_stageAfterFirstOfTimes : MethodName := ⟨RX0, "stageAfterFirstOfTimes", "(I)I"⟩
abbrev cX0_isIn : ByteArray := prog_2_method_8_code
def yX0_isIn : MethodName := ⟨RX0, "isIn", "(III)Z"⟩
def RX1 : String := "DictationBelt$State"
def TX1 : u_T := fun k => match k with
  | 0 => ("DictationBelt$State", "owners", "[I", true)
  | 1 => ("DictationBelt$State", "sounds", "[I", true)
  | 2 => ("DictationBelt$State", "carbons", "[I", true)
  | 3 => ("DictationBelt$State", "order", "[I", true)
  | 4 => ("DictationBelt$State", "used", "I", false)
  | 5 => ("DictationBelt$State", "flags", "[I", true)
  | 6 => ("DictationBelt$State", "losses", "[I", true)
  | 7 => ("DictationBelt$State", "count", "I", false)
  | 8 => ("DictationBelt$State", "isRunning", "Z", false)
  | 9 => ("DictationBelt$State", "head", "I", false)
  | 10 => ("DictationBelt$State", "spoken", "I", false)
  | 11 => ("DictationBelt$State", "gone", "I", false)
  | 12 => ("DictationBelt$State", "player", "I", false)
  | _ => ("DictationBelt$State", "place", "I", false)
def tyX1 : Nat → FieldType := fun k => match k with
  | 0 => .array .int
  | 1 => .array .int
  | 2 => .array .int
  | 3 => .array .int
  | 4 => .int
  | 5 => .array .int
  | 6 => .array .int
  | 7 => .int
  | 8 => .boolean
  | 9 => .int
  | 10 => .int
  | 11 => .int
  | 12 => .int
  | _ => .int
abbrev wsX10 : List Cond := u_ws RX1 TX1 14
theorem nmX1 : ∀ a, a < 14 → ∀ b, b < 14 → a ≠ b → (TX1 a).2.1 ≠ (TX1 b).2.1 := by decide +kernel
theorem tyX1_ok : ∀ k, k < 14 → parseFieldDescriptor (TX1 k).2.2.1 = some (tyX1 k) := by decide +kernel
abbrev cX1_init : ByteArray := prog_3_method_1_code
def yX1_init : MethodName := ⟨RX1, "<init>", "()V"⟩
abbrev cX1_copyFrom : ByteArray := prog_3_method_2_code
def yX1_copyFrom : MethodName := ⟨RX1, "copyFrom", "(LDictationBelt$State;)V"⟩
abbrev cX1_isRecording : ByteArray := prog_3_method_3_code
def yX1_isRecording : MethodName := ⟨RX1, "isRecording", "(I)Z"⟩
abbrev cX1_runningNumber : ByteArray := prog_3_method_4_code
def yX1_runningNumber : MethodName := ⟨RX1, "runningNumber", "()I"⟩
abbrev cX1_isFlagged : ByteArray := prog_3_method_5_code
def yX1_isFlagged : MethodName := ⟨RX1, "isFlagged", "(I)Z"⟩
abbrev cX1_putFlag : ByteArray := prog_3_method_6_code
def yX1_putFlag : MethodName := ⟨RX1, "putFlag", "(IZ)V"⟩
abbrev cX1_cellCount : ByteArray := prog_3_method_7_code
def yX1_cellCount : MethodName := ⟨RX1, "cellCount", "(I)I"⟩
abbrev cX1_cellAt : ByteArray := prog_3_method_8_code
def yX1_cellAt : MethodName := ⟨RX1, "cellAt", "(II)I"⟩
abbrev cX1_mayBegin : ByteArray := prog_3_method_9_code
def yX1_mayBegin : MethodName := ⟨RX1, "mayBegin", "()Z"⟩
abbrev cX1_beginRecording : ByteArray := prog_3_method_10_code
def yX1_beginRecording : MethodName := ⟨RX1, "beginRecording", "()I"⟩
abbrev cX1_stopRecording : ByteArray := prog_3_method_11_code
def yX1_stopRecording : MethodName := ⟨RX1, "stopRecording", "()I"⟩
abbrev cX1_eraseRecording : ByteArray := prog_3_method_12_code
def yX1_eraseRecording : MethodName := ⟨RX1, "eraseRecording", "(I)I"⟩
abbrev cX1_removeRecording : ByteArray := prog_3_method_13_code
def yX1_removeRecording : MethodName := ⟨RX1, "removeRecording", "(I)V"⟩
abbrev cX1_dropFreeCells : ByteArray := prog_3_method_14_code
def yX1_dropFreeCells : MethodName := ⟨RX1, "dropFreeCells", "()V"⟩
abbrev cX1_cellFromHead : ByteArray := prog_3_method_15_code
def yX1_cellFromHead : MethodName := ⟨RX1, "cellFromHead", "(I)I"⟩
abbrev cX1_isWritable : ByteArray := prog_3_method_16_code
def yX1_isWritable : MethodName := ⟨RX1, "isWritable", "(I)Z"⟩
abbrev cX1_writableCells : ByteArray := prog_3_method_17_code
def yX1_writableCells : MethodName := ⟨RX1, "writableCells", "()I"⟩
abbrev cX1_firstWritable : ByteArray := prog_3_method_18_code
def yX1_firstWritable : MethodName := ⟨RX1, "firstWritable", "()I"⟩
abbrev cX1_firstLoser : ByteArray := prog_3_method_19_code
def yX1_firstLoser : MethodName := ⟨RX1, "firstLoser", "()I"⟩
abbrev cX1_lossAfter : ByteArray := prog_3_method_20_code
def yX1_lossAfter : MethodName := ⟨RX1, "lossAfter", "(II)I"⟩
abbrev cX1_maySpeak : ByteArray := prog_3_method_21_code
def yX1_maySpeak : MethodName := ⟨RX1, "maySpeak", "(I)Z"⟩
abbrev cX1_speakTimes : ByteArray := prog_3_method_22_code
def yX1_speakTimes : MethodName := ⟨RX1, "speakTimes", "(II)I"⟩
abbrev cX1_loseCell : ByteArray := prog_3_method_23_code
def yX1_loseCell : MethodName := ⟨RX1, "loseCell", "(I)V"⟩
abbrev cX1_cellsBefore : ByteArray := prog_3_method_24_code
def yX1_cellsBefore : MethodName := ⟨RX1, "cellsBefore", "(I)I"⟩
abbrev cX1_writeCell : ByteArray := prog_3_method_25_code
def yX1_writeCell : MethodName := ⟨RX1, "writeCell", "(II)V"⟩
abbrev cX1_bringPlayer : ByteArray := prog_3_method_26_code
def yX1_bringPlayer : MethodName := ⟨RX1, "bringPlayer", "(I)V"⟩
abbrev cX1_playCell : ByteArray := prog_3_method_27_code
def yX1_playCell : MethodName := ⟨RX1, "playCell", "()I"⟩
abbrev cX1_stepBack : ByteArray := prog_3_method_28_code
def yX1_stepBack : MethodName := ⟨RX1, "stepBack", "(I)I"⟩
abbrev cX1_correctedCells : ByteArray := prog_3_method_29_code
def yX1_correctedCells : MethodName := ⟨RX1, "correctedCells", "()I"⟩
def RX2 : String := "DictationBelt"
def TX2 : u_T := fun k => match k with
  | 0 => ("DictationBelt", "now", "LDictationBelt$State;", true)
  | 1 => ("DictationBelt", "saved", "[LDictationBelt$State;", true)
  | 2 => ("DictationBelt", "nextSlot", "I", false)
  | 3 => ("DictationBelt", "savedCount", "I", false)
  | _ => ("DictationBelt", "text", "LDictationBelt$OrderText;", true)
def tyX2 : Nat → FieldType := fun k => match k with
  | 0 => .object "DictationBelt$State"
  | 1 => .array (.object "DictationBelt$State")
  | 2 => .int
  | 3 => .int
  | _ => .object "DictationBelt$OrderText"
abbrev wsX20 : List Cond := u_ws RX2 TX2 5
theorem nmX2 : ∀ a, a < 5 → ∀ b, b < 5 → a ≠ b → (TX2 a).2.1 ≠ (TX2 b).2.1 := by decide +kernel
theorem tyX2_ok : ∀ k, k < 5 → parseFieldDescriptor (TX2 k).2.2.1 = some (tyX2 k) := by decide +kernel
abbrev cX2_init : ByteArray := prog_1_method_1_code
def yX2_init : MethodName := ⟨RX2, "<init>", "()V"⟩
abbrev cX2_begin : ByteArray := prog_1_method_2_code
def yX2_begin : MethodName := ⟨RX2, "begin", "()I"⟩
abbrev cX2_halt : ByteArray := prog_1_method_3_code
def yX2_halt : MethodName := ⟨RX2, "halt", "()I"⟩
abbrev cX2_speak : ByteArray := prog_1_method_4_code
def yX2_speak : MethodName := ⟨RX2, "speak", "(I)I"⟩
abbrev cX2_setFlag : ByteArray := prog_1_method_5_code
def yX2_setFlag : MethodName := ⟨RX2, "setFlag", "(IZ)Z"⟩
abbrev cX2_erase : ByteArray := prog_1_method_6_code
def yX2_erase : MethodName := ⟨RX2, "erase", "(I)I"⟩
abbrev cX2_moveHead : ByteArray := prog_1_method_7_code
def yX2_moveHead : MethodName := ⟨RX2, "moveHead", "(I)I"⟩
abbrev cX2_recordings : ByteArray := prog_1_method_8_code
def yX2_recordings : MethodName := ⟨RX2, "recordings", "()I"⟩
abbrev cX2_running : ByteArray := prog_1_method_9_code
def yX2_running : MethodName := ⟨RX2, "running", "()I"⟩
abbrev cX2_head : ByteArray := prog_1_method_10_code
def yX2_head : MethodName := ⟨RX2, "head", "()I"⟩
abbrev cX2_length : ByteArray := prog_1_method_11_code
def yX2_length : MethodName := ⟨RX2, "length", "(I)I"⟩
abbrev cX2_sound : ByteArray := prog_1_method_12_code
def yX2_sound : MethodName := ⟨RX2, "sound", "(II)I"⟩
abbrev cX2_cellOf : ByteArray := prog_1_method_13_code
def yX2_cellOf : MethodName := ⟨RX2, "cellOf", "(II)I"⟩
abbrev cX2_hasFlag : ByteArray := prog_1_method_14_code
def yX2_hasFlag : MethodName := ⟨RX2, "hasFlag", "(I)Z"⟩
abbrev cX2_lost : ByteArray := prog_1_method_15_code
def yX2_lost : MethodName := ⟨RX2, "lost", "(I)I"⟩
abbrev cX2_owner : ByteArray := prog_1_method_16_code
def yX2_owner : MethodName := ⟨RX2, "owner", "(I)I"⟩
abbrev cX2_free : ByteArray := prog_1_method_17_code
def yX2_free : MethodName := ⟨RX2, "free", "()I"⟩
abbrev cX2_spoken : ByteArray := prog_1_method_18_code
def yX2_spoken : MethodName := ⟨RX2, "spoken", "()I"⟩
abbrev cX2_gone : ByteArray := prog_1_method_19_code
def yX2_gone : MethodName := ⟨RX2, "gone", "()I"⟩
abbrev cX2_usedShare : ByteArray := prog_1_method_20_code
def yX2_usedShare : MethodName := ⟨RX2, "usedShare", "()D"⟩
abbrev cX2_go : ByteArray := prog_1_method_21_code
def yX2_go : MethodName := ⟨RX2, "go", "(I)I"⟩
abbrev cX2_play : ByteArray := prog_1_method_22_code
def yX2_play : MethodName := ⟨RX2, "play", "()I"⟩
abbrev cX2_back : ByteArray := prog_1_method_23_code
def yX2_back : MethodName := ⟨RX2, "back", "(I)I"⟩
abbrev cX2_playing : ByteArray := prog_1_method_24_code
def yX2_playing : MethodName := ⟨RX2, "playing", "()I"⟩
abbrev cX2_place : ByteArray := prog_1_method_25_code
def yX2_place : MethodName := ⟨RX2, "place", "()I"⟩
abbrev cX2_correct : ByteArray := prog_1_method_26_code
def yX2_correct : MethodName := ⟨RX2, "correct", "(III)I"⟩
abbrev cX2_carbon : ByteArray := prog_1_method_27_code
def yX2_carbon : MethodName := ⟨RX2, "carbon", "(II)I"⟩
abbrev cX2_corrected : ByteArray := prog_1_method_28_code
def yX2_corrected : MethodName := ⟨RX2, "corrected", "()I"⟩
abbrev cX2_room : ByteArray := prog_1_method_29_code
def yX2_room : MethodName := ⟨RX2, "room", "()I"⟩
abbrev cX2_nextLoser : ByteArray := prog_1_method_30_code
def yX2_nextLoser : MethodName := ⟨RX2, "nextLoser", "()I"⟩
abbrev cX2_lossOf : ByteArray := prog_1_method_31_code
def yX2_lossOf : MethodName := ⟨RX2, "lossOf", "(II)I"⟩
abbrev cX2_goneAfter : ByteArray := prog_1_method_32_code
def yX2_goneAfter : MethodName := ⟨RX2, "goneAfter", "(I)I"⟩
abbrev cX2_append : ByteArray := prog_1_method_33_code
def yX2_append : MethodName := ⟨RX2, "append", "(I)I"⟩
abbrev cX2_clearText : ByteArray := prog_1_method_34_code
def yX2_clearText : MethodName := ⟨RX2, "clearText", "()I"⟩
abbrev cX2_firstError : ByteArray := prog_1_method_35_code
def yX2_firstError : MethodName := ⟨RX2, "firstError", "()I"⟩
abbrev cX2_run : ByteArray := prog_1_method_36_code
def yX2_run : MethodName := ⟨RX2, "run", "()I"⟩
abbrev cX2_undo : ByteArray := prog_1_method_37_code
def yX2_undo : MethodName := ⟨RX2, "undo", "()I"⟩
abbrev cX2_savedStates : ByteArray := prog_1_method_38_code
def yX2_savedStates : MethodName := ⟨RX2, "savedStates", "()I"⟩
abbrev cX2_digest : ByteArray := prog_1_method_39_code
def yX2_digest : MethodName := ⟨RX2, "digest", "()J"⟩
abbrev cX2_withRecording : ByteArray := prog_1_method_40_code
def yX2_withRecording : MethodName := ⟨RX2, "withRecording", "(JI)J"⟩
abbrev cX2_mixed : ByteArray := prog_1_method_41_code
def yX2_mixed : MethodName := ⟨RX2, "mixed", "(JJ)J"⟩
abbrev cX2_save : ByteArray := prog_1_method_42_code
def yX2_save : MethodName := ⟨RX2, "save", "()V"⟩
abbrev cX2_slotAt : ByteArray := prog_1_method_43_code
def yX2_slotAt : MethodName := ⟨RX2, "slotAt", "(I)LDictationBelt$State;"⟩
abbrev cX2_obeyOrders : ByteArray := prog_1_method_44_code
def yX2_obeyOrders : MethodName := ⟨RX2, "obeyOrders", "()I"⟩
abbrev cX2_mayObey : ByteArray := prog_1_method_45_code
def yX2_mayObey : MethodName := ⟨RX2, "mayObey", "(III)Z"⟩
abbrev cX2_obey : ByteArray := prog_1_method_46_code
def yX2_obey : MethodName := ⟨RX2, "obey", "(III)V"⟩
abbrev cX2_requireRecording : ByteArray := prog_1_method_47_code
def yX2_requireRecording : MethodName := ⟨RX2, "requireRecording", "(I)V"⟩
abbrev cX2_requirePlace : ByteArray := prog_1_method_48_code
def yX2_requirePlace : MethodName := ⟨RX2, "requirePlace", "(II)V"⟩
abbrev cX2_requirePlayer : ByteArray := prog_1_method_49_code
def yX2_requirePlayer : MethodName := ⟨RX2, "requirePlayer", "()V"⟩
abbrev cX2_requireCell : ByteArray := prog_1_method_50_code
def yX2_requireCell : MethodName := ⟨RX2, "requireCell", "(I)V"⟩
abbrev cX2_requireSound : ByteArray := prog_1_method_51_code
def yX2_requireSound : MethodName := ⟨RX2, "requireSound", "(I)V"⟩
abbrev cX2_requireForecast : ByteArray := prog_1_method_52_code
def yX2_requireForecast : MethodName := ⟨RX2, "requireForecast", "(I)V"⟩
abbrev cX2_valueAt : ByteArray := prog_1_method_53_code
def yX2_valueAt : MethodName := ⟨RX2, "valueAt", "([II)I"⟩
abbrev cX2_putAt : ByteArray := prog_1_method_54_code
def yX2_putAt : MethodName := ⟨RX2, "putAt", "([III)V"⟩
def RX3 : String := "DictationBeltModel"
def TX3 : u_T := fun k => match k with
  | 0 => ("DictationBeltModel", "thrown", "I", false)
  | 1 => ("DictationBeltModel", "s", "[I", true)
  | 2 => ("DictationBeltModel", "saved", "I", false)
  | 3 => ("DictationBeltModel", "text", "[I", true)
  | 4 => ("DictationBeltModel", "length", "I", false)
  | 5 => ("DictationBeltModel", "at", "I", false)
  | 6 => ("DictationBeltModel", "letter", "I", false)
  | 7 => ("DictationBeltModel", "first", "I", false)
  | 8 => ("DictationBeltModel", "second", "I", false)
  | _ => ("DictationBeltModel", "hash", "J", false)
def tyX3 : Nat → FieldType := fun k => match k with
  | 0 => .int
  | 1 => .array .int
  | 2 => .int
  | 3 => .array .int
  | 4 => .int
  | 5 => .int
  | 6 => .int
  | 7 => .int
  | 8 => .int
  | _ => .long
abbrev wsX30 : List Cond := u_ws RX3 TX3 10
theorem nmX3 : ∀ a, a < 10 → ∀ b, b < 10 → a ≠ b → (TX3 a).2.1 ≠ (TX3 b).2.1 := by decide +kernel
theorem tyX3_ok : ∀ k, k < 10 → parseFieldDescriptor (TX3 k).2.2.1 = some (tyX3 k) := by decide +kernel
abbrev cX3_init : ByteArray := prog_5_method_1_code
def yX3_init : MethodName := ⟨RX3, "<init>", "()V"⟩
abbrev cX3_thrown : ByteArray := prog_5_method_2_code
def yX3_thrown : MethodName := ⟨RX3, "thrown", "()I"⟩
abbrev cX3_in : ByteArray := prog_5_method_3_code
def yX3_in : MethodName := ⟨RX3, "in", "(III)Z"⟩
abbrev cX3_holds : ByteArray := prog_5_method_4_code
def yX3_holds : MethodName := ⟨RX3, "holds", "(I)Z"⟩
abbrev cX3_told : ByteArray := prog_5_method_5_code
def yX3_told : MethodName := ⟨RX3, "told", "(I)I"⟩
abbrev cX3_isRecording : ByteArray := prog_5_method_6_code
def yX3_isRecording : MethodName := ⟨RX3, "isRecording", "(I)Z"⟩
abbrev cX3_isCell : ByteArray := prog_5_method_7_code
def yX3_isCell : MethodName := ⟨RX3, "isCell", "(I)Z"⟩
abbrev cX3_cells : ByteArray := prog_5_method_8_code
def yX3_cells : MethodName := ⟨RX3, "cells", "(I)I"⟩
abbrev cX3_placeOf : ByteArray := prog_5_method_9_code
def yX3_placeOf : MethodName := ⟨RX3, "placeOf", "(I)I"⟩
abbrev cX3_cellAt : ByteArray := prog_5_method_10_code
def yX3_cellAt : MethodName := ⟨RX3, "cellAt", "(II)I"⟩
abbrev cX3_isWritable : ByteArray := prog_5_method_11_code
def yX3_isWritable : MethodName := ⟨RX3, "isWritable", "(I)Z"⟩
abbrev cX3_writable : ByteArray := prog_5_method_12_code
def yX3_writable : MethodName := ⟨RX3, "writable", "()I"⟩
abbrev cX3_leaves : ByteArray := prog_5_method_13_code
def yX3_leaves : MethodName := ⟨RX3, "leaves", "(I)V"⟩
abbrev cX3_loses : ByteArray := prog_5_method_14_code
def yX3_loses : MethodName := ⟨RX3, "loses", "(I)V"⟩
abbrev cX3_speaks : ByteArray := prog_5_method_15_code
def yX3_speaks : MethodName := ⟨RX3, "speaks", "(I)I"⟩
abbrev cX3_halts : ByteArray := prog_5_method_16_code
def yX3_halts : MethodName := ⟨RX3, "halts", "()I"⟩
abbrev cX3_begins : ByteArray := prog_5_method_17_code
def yX3_begins : MethodName := ⟨RX3, "begins", "()I"⟩
abbrev cX3_canBegin : ByteArray := prog_5_method_18_code
def yX3_canBegin : MethodName := ⟨RX3, "canBegin", "()Z"⟩
abbrev cX3_canSpeak : ByteArray := prog_5_method_19_code
def yX3_canSpeak : MethodName := ⟨RX3, "canSpeak", "(I)Z"⟩
abbrev cX3_goes : ByteArray := prog_5_method_20_code
def yX3_goes : MethodName := ⟨RX3, "goes", "(I)I"⟩
abbrev cX3_plays : ByteArray := prog_5_method_21_code
def yX3_plays : MethodName := ⟨RX3, "plays", "()I"⟩
abbrev cX3_goesBack : ByteArray := prog_5_method_22_code
def yX3_goesBack : MethodName := ⟨RX3, "goesBack", "(I)I"⟩
abbrev cX3_copies : ByteArray := prog_5_method_23_code
def yX3_copies : MethodName := ⟨RX3, "copies", "(II)V"⟩
abbrev cX3_save : ByteArray := prog_5_method_24_code
def yX3_save : MethodName := ⟨RX3, "save", "()V"⟩
abbrev cX3_begin : ByteArray := prog_5_method_25_code
def yX3_begin : MethodName := ⟨RX3, "begin", "()I"⟩
abbrev cX3_halt : ByteArray := prog_5_method_26_code
def yX3_halt : MethodName := ⟨RX3, "halt", "()I"⟩
abbrev cX3_isSound : ByteArray := prog_5_method_27_code
def yX3_isSound : MethodName := ⟨RX3, "isSound", "(I)Z"⟩
abbrev cX3_speak : ByteArray := prog_5_method_28_code
def yX3_speak : MethodName := ⟨RX3, "speak", "(I)I"⟩
abbrev cX3_setFlag : ByteArray := prog_5_method_29_code
def yX3_setFlag : MethodName := ⟨RX3, "setFlag", "(IZ)Z"⟩
abbrev cX3_erase : ByteArray := prog_5_method_30_code
def yX3_erase : MethodName := ⟨RX3, "erase", "(I)I"⟩
abbrev cX3_moveHead : ByteArray := prog_5_method_31_code
def yX3_moveHead : MethodName := ⟨RX3, "moveHead", "(I)I"⟩
abbrev cX3_recordings : ByteArray := prog_5_method_32_code
def yX3_recordings : MethodName := ⟨RX3, "recordings", "()I"⟩
abbrev cX3_running : ByteArray := prog_5_method_33_code
def yX3_running : MethodName := ⟨RX3, "running", "()I"⟩
abbrev cX3_head : ByteArray := prog_5_method_34_code
def yX3_head : MethodName := ⟨RX3, "head", "()I"⟩
abbrev cX3_length : ByteArray := prog_5_method_35_code
def yX3_length : MethodName := ⟨RX3, "length", "(I)I"⟩
abbrev cX3_ofPlace : ByteArray := prog_5_method_36_code
def yX3_ofPlace : MethodName := ⟨RX3, "ofPlace", "(III)I"⟩
abbrev cX3_sound : ByteArray := prog_5_method_37_code
def yX3_sound : MethodName := ⟨RX3, "sound", "(II)I"⟩
abbrev cX3_cellOf : ByteArray := prog_5_method_38_code
def yX3_cellOf : MethodName := ⟨RX3, "cellOf", "(II)I"⟩
abbrev cX3_hasFlag : ByteArray := prog_5_method_39_code
def yX3_hasFlag : MethodName := ⟨RX3, "hasFlag", "(I)Z"⟩
abbrev cX3_lost : ByteArray := prog_5_method_40_code
def yX3_lost : MethodName := ⟨RX3, "lost", "(I)I"⟩
abbrev cX3_owner : ByteArray := prog_5_method_41_code
def yX3_owner : MethodName := ⟨RX3, "owner", "(I)I"⟩
abbrev cX3_free : ByteArray := prog_5_method_42_code
def yX3_free : MethodName := ⟨RX3, "free", "()I"⟩
abbrev cX3_spoken : ByteArray := prog_5_method_43_code
def yX3_spoken : MethodName := ⟨RX3, "spoken", "()I"⟩
abbrev cX3_gone : ByteArray := prog_5_method_44_code
def yX3_gone : MethodName := ⟨RX3, "gone", "()I"⟩
abbrev cX3_usedShare : ByteArray := prog_5_method_45_code
def yX3_usedShare : MethodName := ⟨RX3, "usedShare", "()D"⟩
abbrev cX3_go : ByteArray := prog_5_method_46_code
def yX3_go : MethodName := ⟨RX3, "go", "(I)I"⟩
abbrev cX3_play : ByteArray := prog_5_method_47_code
def yX3_play : MethodName := ⟨RX3, "play", "()I"⟩
abbrev cX3_back : ByteArray := prog_5_method_48_code
def yX3_back : MethodName := ⟨RX3, "back", "(I)I"⟩
abbrev cX3_playing : ByteArray := prog_5_method_49_code
def yX3_playing : MethodName := ⟨RX3, "playing", "()I"⟩
abbrev cX3_place : ByteArray := prog_5_method_50_code
def yX3_place : MethodName := ⟨RX3, "place", "()I"⟩
abbrev cX3_correct : ByteArray := prog_5_method_51_code
def yX3_correct : MethodName := ⟨RX3, "correct", "(III)I"⟩
abbrev cX3_carbon : ByteArray := prog_5_method_52_code
def yX3_carbon : MethodName := ⟨RX3, "carbon", "(II)I"⟩
abbrev cX3_correctedCells : ByteArray := prog_5_method_53_code
def yX3_correctedCells : MethodName := ⟨RX3, "correctedCells", "()I"⟩
abbrev cX3_corrected : ByteArray := prog_5_method_54_code
def yX3_corrected : MethodName := ⟨RX3, "corrected", "()I"⟩
abbrev cX3_room : ByteArray := prog_5_method_55_code
def yX3_room : MethodName := ⟨RX3, "room", "()I"⟩
abbrev cX3_loser : ByteArray := prog_5_method_56_code
def yX3_loser : MethodName := ⟨RX3, "loser", "()I"⟩
abbrev cX3_nextLoser : ByteArray := prog_5_method_57_code
def yX3_nextLoser : MethodName := ⟨RX3, "nextLoser", "()I"⟩
abbrev cX3_loss : ByteArray := prog_5_method_58_code
def yX3_loss : MethodName := ⟨RX3, "loss", "(II)I"⟩
abbrev cX3_lossOf : ByteArray := prog_5_method_59_code
def yX3_lossOf : MethodName := ⟨RX3, "lossOf", "(II)I"⟩
abbrev cX3_goneAfter : ByteArray := prog_5_method_60_code
def yX3_goneAfter : MethodName := ⟨RX3, "goneAfter", "(I)I"⟩
abbrev cX3_append : ByteArray := prog_5_method_61_code
def yX3_append : MethodName := ⟨RX3, "append", "(I)I"⟩
abbrev cX3_clearText : ByteArray := prog_5_method_62_code
def yX3_clearText : MethodName := ⟨RX3, "clearText", "()I"⟩
abbrev cX3_sign : ByteArray := prog_5_method_63_code
def yX3_sign : MethodName := ⟨RX3, "sign", "()I"⟩
abbrev cX3_takes : ByteArray := prog_5_method_64_code
def yX3_takes : MethodName := ⟨RX3, "takes", "(I)Z"⟩
abbrev cX3_number : ByteArray := prog_5_method_65_code
def yX3_number : MethodName := ⟨RX3, "number", "(II)I"⟩
abbrev cX3_readsOrder : ByteArray := prog_5_method_66_code
def yX3_readsOrder : MethodName := ⟨RX3, "readsOrder", "()Z"⟩
abbrev cX3_areOrders : ByteArray := prog_5_method_67_code
def yX3_areOrders : MethodName := ⟨RX3, "areOrders", "()Z"⟩
abbrev cX3_firstError : ByteArray := prog_5_method_68_code
def yX3_firstError : MethodName := ⟨RX3, "firstError", "()I"⟩
abbrev cX3_can : ByteArray := prog_5_method_69_code
def yX3_can : MethodName := ⟨RX3, "can", "()Z"⟩
abbrev cX3_does : ByteArray := prog_5_method_70_code
def yX3_does : MethodName := ⟨RX3, "does", "()V"⟩
abbrev cX3_run : ByteArray := prog_5_method_71_code
def yX3_run : MethodName := ⟨RX3, "run", "()I"⟩
abbrev cX3_undo : ByteArray := prog_5_method_72_code
def yX3_undo : MethodName := ⟨RX3, "undo", "()I"⟩
abbrev cX3_savedStates : ByteArray := prog_5_method_73_code
def yX3_savedStates : MethodName := ⟨RX3, "savedStates", "()I"⟩
abbrev cX3_mix : ByteArray := prog_5_method_74_code
def yX3_mix : MethodName := ⟨RX3, "mix", "(J)V"⟩
abbrev cX3_digest : ByteArray := prog_5_method_75_code
def yX3_digest : MethodName := ⟨RX3, "digest", "()J"⟩
def RJ9 : String := "java/lang/Math"
def TJ9 : u_T := fun k => match k with
  | _ => ("", "", "", false)
def tyJ9 : Nat → FieldType := fun k => match k with
  | _ => .int
abbrev wsJ90 : List Cond := u_ws RJ9 TJ9 0
theorem nmJ9 : ∀ a, a < 0 → ∀ b, b < 0 → a ≠ b → (TJ9 a).2.1 ≠ (TJ9 b).2.1 := by decide +kernel
theorem tyJ9_ok : ∀ k, k < 0 → parseFieldDescriptor (TJ9 k).2.2.1 = some (tyJ9 k) := by decide +kernel
abbrev cJ9_max_7cf53 : ByteArray := prog_10_method_65_code
def yJ9_max_7cf53 : MethodName := ⟨RJ9, "max", "(II)I"⟩
abbrev cJ9_min_7cf53 : ByteArray := prog_10_method_69_code
def yJ9_min_7cf53 : MethodName := ⟨RJ9, "min", "(II)I"⟩
def RJ0 : String := "java/lang/String"
def TJ0 : u_T := fun k => match k with
  | _ => ("", "", "", false)
def tyJ0 : Nat → FieldType := fun k => match k with
  | _ => .int
abbrev wsJ00 : List Cond := u_ws RJ0 TJ0 0
theorem nmJ0 : ∀ a, a < 0 → ∀ b, b < 0 → a ≠ b → (TJ0 a).2.1 ≠ (TJ0 b).2.1 := by decide +kernel
theorem tyJ0_ok : ∀ k, k < 0 → parseFieldDescriptor (TJ0 k).2.2.1 = some (tyJ0 k) := by decide +kernel
def RJ10 : String := "java/lang/System"
def TJ10 : u_T := fun k => match k with
  | _ => ("", "", "", false)
def tyJ10 : Nat → FieldType := fun k => match k with
  | _ => .int
abbrev wsJ100 : List Cond := u_ws RJ10 TJ10 0
theorem nmJ10 : ∀ a, a < 0 → ∀ b, b < 0 → a ≠ b → (TJ10 a).2.1 ≠ (TJ10 b).2.1 := by decide +kernel
theorem tyJ10_ok : ∀ k, k < 0 → parseFieldDescriptor (TJ10 k).2.2.1 = some (tyJ10 k) := by decide +kernel
def RL : String := "DictationBeltLaw"
abbrev cL_begin : ByteArray := method_3_code
def yL_begin : MethodName := ⟨RL, "begin", "(LDictationBelt;[J)I"⟩
abbrev cL_halt : ByteArray := method_4_code
def yL_halt : MethodName := ⟨RL, "halt", "(LDictationBelt;[J)I"⟩
abbrev cL_speak : ByteArray := method_5_code
def yL_speak : MethodName := ⟨RL, "speak", "(LDictationBelt;I[J)I"⟩
abbrev cL_setFlag : ByteArray := method_6_code
def yL_setFlag : MethodName := ⟨RL, "setFlag", "(LDictationBelt;IZ[J)I"⟩
abbrev cL_erase : ByteArray := method_7_code
def yL_erase : MethodName := ⟨RL, "erase", "(LDictationBelt;I[J)I"⟩
abbrev cL_moveHead : ByteArray := method_8_code
def yL_moveHead : MethodName := ⟨RL, "moveHead", "(LDictationBelt;I[J)I"⟩
abbrev cL_length : ByteArray := method_9_code
def yL_length : MethodName := ⟨RL, "length", "(LDictationBelt;I[J)I"⟩
abbrev cL_sound : ByteArray := method_10_code
def yL_sound : MethodName := ⟨RL, "sound", "(LDictationBelt;II[J)I"⟩
abbrev cL_cellOf : ByteArray := method_11_code
def yL_cellOf : MethodName := ⟨RL, "cellOf", "(LDictationBelt;II[J)I"⟩
abbrev cL_hasFlag : ByteArray := method_12_code
def yL_hasFlag : MethodName := ⟨RL, "hasFlag", "(LDictationBelt;I[J)I"⟩
abbrev cL_lost : ByteArray := method_13_code
def yL_lost : MethodName := ⟨RL, "lost", "(LDictationBelt;I[J)I"⟩
abbrev cL_owner : ByteArray := method_14_code
def yL_owner : MethodName := ⟨RL, "owner", "(LDictationBelt;I[J)I"⟩
abbrev cL_go : ByteArray := method_15_code
def yL_go : MethodName := ⟨RL, "go", "(LDictationBelt;I[J)I"⟩
abbrev cL_play : ByteArray := method_16_code
def yL_play : MethodName := ⟨RL, "play", "(LDictationBelt;[J)I"⟩
abbrev cL_back : ByteArray := method_17_code
def yL_back : MethodName := ⟨RL, "back", "(LDictationBelt;I[J)I"⟩
abbrev cL_correct : ByteArray := method_18_code
def yL_correct : MethodName := ⟨RL, "correct", "(LDictationBelt;III[J)I"⟩
abbrev cL_carbon : ByteArray := method_19_code
def yL_carbon : MethodName := ⟨RL, "carbon", "(LDictationBelt;II[J)I"⟩
abbrev cL_lossOf : ByteArray := method_20_code
def yL_lossOf : MethodName := ⟨RL, "lossOf", "(LDictationBelt;II[J)I"⟩
abbrev cL_goneAfter : ByteArray := method_21_code
def yL_goneAfter : MethodName := ⟨RL, "goneAfter", "(LDictationBelt;I[J)I"⟩
abbrev cL_append : ByteArray := method_22_code
def yL_append : MethodName := ⟨RL, "append", "(LDictationBelt;I[J)I"⟩
abbrev cL_run : ByteArray := method_23_code
def yL_run : MethodName := ⟨RL, "run", "(LDictationBelt;[J)I"⟩
abbrev cL_undo : ByteArray := method_24_code
def yL_undo : MethodName := ⟨RL, "undo", "(LDictationBelt;[J)I"⟩
abbrev cL_law : ByteArray := code
def yL_law : MethodName := ⟨RL, "law", "([I)Z"⟩
def wsL_law0_r1 : List Cond := [Cond.classLink RL 8 RX2, Cond.instantiable RX2 5, Cond.initialized RX2, Cond.classLink RL 88 RX3, Cond.instantiable RX3 10, Cond.initialized RX3, Cond.arrayClass .long, Cond.methodLink RL 87 yX2_init, Cond.instanceMethod yX2_init, Cond.code yX2_init cX2_init 2 none, Cond.methodLink RX2 1 objectInit, Cond.instanceMethod objectInit, Cond.code objectInit ⟨#[0xb1]⟩ 1 none, Cond.classLink RX2 7 RX1, Cond.instantiable RX1 14, Cond.initialized RX1, Cond.fieldLink RX2 10 "DictationBelt" "now" "LDictationBelt$State;", Cond.fieldLink RX2 16 "DictationBelt" "saved" "[LDictationBelt$State;", Cond.fieldLink RX2 20 "DictationBelt" "nextSlot" "I", Cond.fieldLink RX2 24 "DictationBelt" "savedCount" "I", Cond.classLink RX2 27 RX0, Cond.instantiable RX0 2, Cond.initialized RX0, Cond.fieldLink RX2 30 "DictationBelt" "text" "LDictationBelt$OrderText;"]
def wsL_law0_r2 : List Cond := [Cond.methodLink RX2 9 yX1_init, Cond.instanceMethod yX1_init, Cond.code yX1_init cX1_init 2 none, Cond.methodLink RX1 3 objectInit, Cond.arrayClass .int, Cond.fieldLink RX1 9 "DictationBelt$State" "owners" "[I", Cond.fieldLink RX1 15 "DictationBelt$State" "sounds" "[I", Cond.fieldLink RX1 18 "DictationBelt$State" "carbons" "[I", Cond.fieldLink RX1 21 "DictationBelt$State" "order" "[I", Cond.fieldLink RX1 24 "DictationBelt$State" "used" "I", Cond.fieldLink RX1 28 "DictationBelt$State" "flags" "[I", Cond.fieldLink RX1 31 "DictationBelt$State" "losses" "[I", Cond.fieldLink RX1 34 "DictationBelt$State" "count" "I", Cond.fieldLink RX1 37 "DictationBelt$State" "isRunning" "Z", Cond.fieldLink RX1 41 "DictationBelt$State" "head" "I", Cond.fieldLink RX1 44 "DictationBelt$State" "spoken" "I", Cond.fieldLink RX1 47 "DictationBelt$State" "gone" "I", Cond.fieldLink RX1 50 "DictationBelt$State" "player" "I", Cond.fieldLink RX1 53 "DictationBelt$State" "place" "I", Cond.methodLink RX2 29 yX0_init, Cond.instanceMethod yX0_init, Cond.code yX0_init cX0_init 1 none, Cond.methodLink RX0 3 objectInit, Cond.fieldLink RX0 9 "DictationBelt$OrderText" "codes" "[I"]
def wsL_law0_r3 : List Cond := [Cond.fieldLink RX0 15 "DictationBelt$OrderText" "length" "I", Cond.methodLink RL 90 yX3_init, Cond.instanceMethod yX3_init, Cond.code yX3_init cX3_init 2 none, Cond.methodLink RX3 1 objectInit, Cond.fieldLink RX3 7 "DictationBeltModel" "s" "[I", Cond.fieldLink RX3 13 "DictationBeltModel" "text" "[I", Cond.methodLink RL 91 yL_begin, Cond.static yL_begin, Cond.initialized RL, Cond.codeWith yL_begin cL_begin 3 (some .int) [(0, 8, 11, 13)], Cond.classLink RL 13 "java/lang/IllegalStateException", Cond.methodLink RL 7 yX2_begin, Cond.instanceMethod yX2_begin, Cond.selects RX2 yX2_begin yX2_begin, Cond.code yX2_begin cX2_begin 1 (some .int), Cond.classLink RX2 38 "java/lang/IllegalStateException", Cond.initialized "java/lang/IllegalStateException", Cond.methodLink RX2 34 yX1_mayBegin, Cond.instanceMethod yX1_mayBegin, Cond.selects RX1 yX1_mayBegin yX1_mayBegin, Cond.code yX1_mayBegin cX1_mayBegin 1 (some .boolean), Cond.methodLink RX1 70 yX1_runningNumber, Cond.instanceMethod yX1_runningNumber]
def wsL_law0_r4 : List Cond := [Cond.selects RX1 yX1_runningNumber yX1_runningNumber, Cond.code yX1_runningNumber cX1_runningNumber 1 (some .int), Cond.methodLink RX1 74 yX1_cellCount, Cond.instanceMethod yX1_cellCount, Cond.selects RX1 yX1_cellCount yX1_cellCount, Cond.code yX1_cellCount cX1_cellCount 4 (some .int), Cond.static yX2_valueAt, Cond.code yX2_valueAt cX2_valueAt 2 (some .int), Cond.methodLink RX2 45 yX2_save, Cond.instanceMethod yX2_save, Cond.selects RX2 yX2_save yX2_save, Cond.code yX2_save cX2_save 2 none, Cond.methodLink RX2 208 yX2_slotAt, Cond.instanceMethod yX2_slotAt, Cond.selects RX2 yX2_slotAt yX2_slotAt, Cond.code yX2_slotAt cX2_slotAt 2 (some (.object "DictationBelt$State")), Cond.methodLink RX2 212 yX1_copyFrom, Cond.instanceMethod yX1_copyFrom, Cond.selects RX1 yX1_copyFrom yX1_copyFrom, Cond.code yX1_copyFrom cX1_copyFrom 2 none, Cond.methodLink RX1 56 arraycopyName, Cond.native arraycopyName, Cond.static arraycopyName, Cond.initialized "java/lang/System"]
def wsL_law0_r5 : List Cond := [Cond.methodLink RX2 48 yX1_beginRecording, Cond.instanceMethod yX1_beginRecording, Cond.selects RX1 yX1_beginRecording yX1_beginRecording, Cond.code yX1_beginRecording cX1_beginRecording 2 (some .int), Cond.methodLink RX1 78 yX1_stopRecording, Cond.instanceMethod yX1_stopRecording, Cond.selects RX1 yX1_stopRecording yX1_stopRecording, Cond.code yX1_stopRecording cX1_stopRecording 3 (some .int), Cond.methodLink RX1 81 yX1_removeRecording, Cond.instanceMethod yX1_removeRecording, Cond.selects RX1 yX1_removeRecording yX1_removeRecording, Cond.code yX1_removeRecording cX1_removeRecording 4 none, Cond.static yX2_putAt, Cond.code yX2_putAt cX2_putAt 3 none, Cond.methodLink RL 96 yX3_begin, Cond.instanceMethod yX3_begin, Cond.selects RX3 yX3_begin yX3_begin, Cond.code yX3_begin cX3_begin 1 (some .int), Cond.methodLink RX3 60 yX3_canBegin, Cond.instanceMethod yX3_canBegin, Cond.selects RX3 yX3_canBegin yX3_canBegin, Cond.code yX3_canBegin cX3_canBegin 1 (some .boolean), Cond.methodLink RX3 32 yX3_cells, Cond.instanceMethod yX3_cells]
def wsL_law0_r6 : List Cond := [Cond.selects RX3 yX3_cells yX3_cells, Cond.code yX3_cells cX3_cells 4 (some .int), Cond.methodLink RX3 64 yX3_holds, Cond.instanceMethod yX3_holds, Cond.selects RX3 yX3_holds yX3_holds, Cond.code yX3_holds cX3_holds 2 (some .boolean), Cond.fieldLink RX3 16 "DictationBeltModel" "thrown" "I", Cond.methodLink RX3 67 yX3_save, Cond.instanceMethod yX3_save, Cond.selects RX3 yX3_save yX3_save, Cond.code yX3_save cX3_save 2 none, Cond.fieldLink RX3 53 "DictationBeltModel" "saved" "I", Cond.methodLink RX3 56 yX3_copies, Cond.instanceMethod yX3_copies, Cond.selects RX3 yX3_copies yX3_copies, Cond.code yX3_copies cX3_copies 4 none, Cond.methodLink RX3 70 yX3_begins, Cond.instanceMethod yX3_begins, Cond.selects RX3 yX3_begins yX3_begins, Cond.code yX3_begins cX3_begins 1 (some .int), Cond.methodLink RX3 42 yX3_halts, Cond.instanceMethod yX3_halts, Cond.selects RX3 yX3_halts yX3_halts, Cond.code yX3_halts cX3_halts 3 (some .int)]
def wsL_law0_r7 : List Cond := [Cond.methodLink RX3 35 yX3_leaves, Cond.instanceMethod yX3_leaves, Cond.selects RX3 yX3_leaves yX3_leaves, Cond.code yX3_leaves cX3_leaves 4 none, Cond.methodLink RL 97 yX3_thrown, Cond.instanceMethod yX3_thrown, Cond.selects RX3 yX3_thrown yX3_thrown, Cond.code yX3_thrown cX3_thrown 1 (some .int), Cond.methodLink RL 100 yL_halt, Cond.static yL_halt, Cond.codeWith yL_halt cL_halt 3 (some .int) [(0, 8, 11, 13)], Cond.methodLink RL 15 yX2_halt, Cond.instanceMethod yX2_halt, Cond.selects RX2 yX2_halt yX2_halt, Cond.code yX2_halt cX2_halt 1 (some .int), Cond.fieldLink RX2 52 "DictationBelt$State" "isRunning" "Z", Cond.methodLink RX2 58 yX1_stopRecording, Cond.methodLink RL 102 yX3_halt, Cond.instanceMethod yX3_halt, Cond.selects RX3 yX3_halt yX3_halt, Cond.code yX3_halt cX3_halt 1 (some .int), Cond.methodLink RL 103 yL_speak, Cond.static yL_speak, Cond.codeWith yL_speak cL_speak 4 (some .int) [(0, 9, 12, 22), (0, 9, 15, 13)]]
def wsL_law0_r8 : List Cond := [Cond.classLink RL 22 "java/lang/IllegalArgumentException", Cond.methodLink RL 18 yX2_speak, Cond.instanceMethod yX2_speak, Cond.selects RX2 yX2_speak yX2_speak, Cond.code yX2_speak cX2_speak 2 (some .int), Cond.methodLink RX2 61 yX2_requireSound, Cond.static yX2_requireSound, Cond.code yX2_requireSound cX2_requireSound 1 none, Cond.classLink RX2 149 "java/lang/IllegalArgumentException", Cond.initialized "java/lang/IllegalArgumentException", Cond.methodLink RX2 65 yX1_maySpeak, Cond.instanceMethod yX1_maySpeak, Cond.selects RX1 yX1_maySpeak yX1_maySpeak, Cond.code yX1_maySpeak cX1_maySpeak 2 (some .boolean), Cond.methodLink RX1 95 yX1_writableCells, Cond.instanceMethod yX1_writableCells, Cond.selects RX1 yX1_writableCells yX1_writableCells, Cond.code yX1_writableCells cX1_writableCells 3 (some .int), Cond.methodLink RX1 88 yX1_isWritable, Cond.instanceMethod yX1_isWritable, Cond.selects RX1 yX1_isWritable yX1_isWritable, Cond.code yX1_isWritable cX1_isWritable 3 (some .boolean), Cond.methodLink RX2 71 yX1_speakTimes, Cond.instanceMethod yX1_speakTimes]
def wsL_law0_r9 : List Cond := [Cond.selects RX1 yX1_speakTimes yX1_speakTimes, Cond.code yX1_speakTimes cX1_speakTimes 5 (some .int), Cond.methodLink RX1 98 yX1_firstWritable, Cond.instanceMethod yX1_firstWritable, Cond.selects RX1 yX1_firstWritable yX1_firstWritable, Cond.code yX1_firstWritable cX1_firstWritable 3 (some .int), Cond.methodLink RX1 92 yX1_cellFromHead, Cond.instanceMethod yX1_cellFromHead, Cond.selects RX1 yX1_cellFromHead yX1_cellFromHead, Cond.code yX1_cellFromHead cX1_cellFromHead 2 (some .int), Cond.methodLink RX1 101 yX1_loseCell, Cond.instanceMethod yX1_loseCell, Cond.selects RX1 yX1_loseCell yX1_loseCell, Cond.code yX1_loseCell cX1_loseCell 3 none, Cond.methodLink RX1 108 yX1_cellsBefore, Cond.instanceMethod yX1_cellsBefore, Cond.selects RX1 yX1_cellsBefore yX1_cellsBefore, Cond.code yX1_cellsBefore cX1_cellsBefore 6 (some .int), Cond.methodLink RX1 85 yX1_dropFreeCells, Cond.instanceMethod yX1_dropFreeCells, Cond.selects RX1 yX1_dropFreeCells yX1_dropFreeCells, Cond.code yX1_dropFreeCells cX1_dropFreeCells 4 none, Cond.methodLink RX1 104 yX1_writeCell, Cond.instanceMethod yX1_writeCell]
def wsL_law0_r10 : List Cond := [Cond.selects RX1 yX1_writeCell yX1_writeCell, Cond.code yX1_writeCell cX1_writeCell 3 none, Cond.methodLink RL 106 yX3_speak, Cond.instanceMethod yX3_speak, Cond.selects RX3 yX3_speak yX3_speak, Cond.code yX3_speak cX3_speak 2 (some .int), Cond.methodLink RX3 73 yX3_isSound, Cond.static yX3_isSound, Cond.code yX3_isSound cX3_isSound 1 (some .boolean), Cond.methodLink RX3 20 yX3_in, Cond.static yX3_in, Cond.code yX3_in cX3_in 3 (some .boolean), Cond.methodLink RX3 76 yX3_canSpeak, Cond.instanceMethod yX3_canSpeak, Cond.selects RX3 yX3_canSpeak yX3_canSpeak, Cond.code yX3_canSpeak cX3_canSpeak 2 (some .boolean), Cond.methodLink RX3 46 yX3_writable, Cond.instanceMethod yX3_writable, Cond.selects RX3 yX3_writable yX3_writable, Cond.code yX3_writable cX3_writable 3 (some .int), Cond.methodLink RX3 28 yX3_isWritable, Cond.instanceMethod yX3_isWritable, Cond.selects RX3 yX3_isWritable yX3_isWritable, Cond.code yX3_isWritable cX3_isWritable 3 (some .boolean)]
def wsL_law0_r11 : List Cond := [Cond.methodLink RX3 79 yX3_speaks, Cond.instanceMethod yX3_speaks, Cond.selects RX3 yX3_speaks yX3_speaks, Cond.code yX3_speaks cX3_speaks 3 (some .int), Cond.methodLink RX3 39 yX3_loses, Cond.instanceMethod yX3_loses, Cond.selects RX3 yX3_loses yX3_loses, Cond.code yX3_loses cX3_loses 3 none, Cond.methodLink RX3 24 yX3_placeOf, Cond.instanceMethod yX3_placeOf, Cond.selects RX3 yX3_placeOf yX3_placeOf, Cond.code yX3_placeOf cX3_placeOf 4 (some .int), Cond.methodLink RL 107 yL_setFlag, Cond.static yL_setFlag, Cond.codeWith yL_setFlag cL_setFlag 5 (some .int) [(0, 17, 20, 28)], Cond.classLink RL 28 "java/lang/IndexOutOfBoundsException", Cond.methodLink RL 24 yX2_setFlag, Cond.instanceMethod yX2_setFlag, Cond.selects RX2 yX2_setFlag yX2_setFlag, Cond.code yX2_setFlag cX2_setFlag 4 (some .boolean), Cond.methodLink RX2 75 yX2_requireRecording, Cond.instanceMethod yX2_requireRecording, Cond.selects RX2 yX2_requireRecording yX2_requireRecording, Cond.code yX2_requireRecording cX2_requireRecording 2 none]
def wsL_law0_r12 : List Cond := [Cond.classLink RX2 279 "java/lang/IndexOutOfBoundsException", Cond.initialized "java/lang/IndexOutOfBoundsException", Cond.methodLink RX2 276 yX1_isRecording, Cond.instanceMethod yX1_isRecording, Cond.selects RX1 yX1_isRecording yX1_isRecording, Cond.code yX1_isRecording cX1_isRecording 2 (some .boolean), Cond.methodLink RX2 78 yX1_isFlagged, Cond.instanceMethod yX1_isFlagged, Cond.selects RX1 yX1_isFlagged yX1_isFlagged, Cond.code yX1_isFlagged cX1_isFlagged 2 (some .boolean), Cond.methodLink RX2 81 yX1_putFlag, Cond.instanceMethod yX1_putFlag, Cond.selects RX1 yX1_putFlag yX1_putFlag, Cond.code yX1_putFlag cX1_putFlag 3 none, Cond.methodLink RL 110 yX3_setFlag, Cond.instanceMethod yX3_setFlag, Cond.selects RX3 yX3_setFlag yX3_setFlag, Cond.code yX3_setFlag cX3_setFlag 4 (some .boolean), Cond.methodLink RX3 82 yX3_isRecording, Cond.instanceMethod yX3_isRecording, Cond.selects RX3 yX3_isRecording yX3_isRecording, Cond.code yX3_isRecording cX3_isRecording 2 (some .boolean), Cond.methodLink RL 111 yL_erase, Cond.static yL_erase]
def wsL_law0_r13 : List Cond := [Cond.codeWith yL_erase cL_erase 4 (some .int) [(0, 9, 12, 28), (0, 9, 15, 13)], Cond.methodLink RL 30 yX2_erase, Cond.instanceMethod yX2_erase, Cond.selects RX2 yX2_erase yX2_erase, Cond.code yX2_erase cX2_erase 2 (some .int), Cond.methodLink RX2 87 yX1_eraseRecording, Cond.instanceMethod yX1_eraseRecording, Cond.selects RX1 yX1_eraseRecording yX1_eraseRecording, Cond.code yX1_eraseRecording cX1_eraseRecording 4 (some .int), Cond.methodLink RL 113 yX3_erase, Cond.instanceMethod yX3_erase, Cond.selects RX3 yX3_erase yX3_erase, Cond.code yX3_erase cX3_erase 4 (some .int), Cond.methodLink RL 114 yL_moveHead, Cond.static yL_moveHead, Cond.codeWith yL_moveHead cL_moveHead 4 (some .int) [(0, 9, 12, 28), (0, 9, 15, 13)], Cond.methodLink RL 33 yX2_moveHead, Cond.instanceMethod yX2_moveHead, Cond.selects RX2 yX2_moveHead yX2_moveHead, Cond.code yX2_moveHead cX2_moveHead 3 (some .int), Cond.fieldLink RX2 96 "DictationBelt$State" "head" "I", Cond.methodLink RX2 91 yX2_requireCell, Cond.static yX2_requireCell, Cond.code yX2_requireCell cX2_requireCell 1 none]
def wsL_law0_r14 : List Cond := [Cond.methodLink RL 116 yX3_moveHead, Cond.instanceMethod yX3_moveHead, Cond.selects RX3 yX3_moveHead yX3_moveHead, Cond.code yX3_moveHead cX3_moveHead 3 (some .int), Cond.methodLink RX3 85 yX3_isCell, Cond.static yX3_isCell, Cond.code yX3_isCell cX3_isCell 1 (some .boolean), Cond.methodLink RL 117 yX2_recordings, Cond.instanceMethod yX2_recordings, Cond.selects RX2 yX2_recordings yX2_recordings, Cond.code yX2_recordings cX2_recordings 1 (some .int), Cond.fieldLink RX2 99 "DictationBelt$State" "count" "I", Cond.methodLink RL 120 yX3_recordings, Cond.instanceMethod yX3_recordings, Cond.selects RX3 yX3_recordings yX3_recordings, Cond.code yX3_recordings cX3_recordings 1 (some .int), Cond.methodLink RX3 88 yX3_told, Cond.instanceMethod yX3_told, Cond.selects RX3 yX3_told yX3_told, Cond.code yX3_told cX3_told 2 (some .int), Cond.methodLink RL 121 yX2_running, Cond.instanceMethod yX2_running, Cond.selects RX2 yX2_running yX2_running, Cond.code yX2_running cX2_running 1 (some .int)]
def wsL_law0_r15 : List Cond := [Cond.methodLink RX2 102 yX1_runningNumber, Cond.methodLink RL 124 yX3_running, Cond.instanceMethod yX3_running, Cond.selects RX3 yX3_running yX3_running, Cond.code yX3_running cX3_running 1 (some .int), Cond.methodLink RL 125 yX2_head, Cond.instanceMethod yX2_head, Cond.selects RX2 yX2_head yX2_head, Cond.code yX2_head cX2_head 1 (some .int), Cond.methodLink RL 128 yX3_head, Cond.instanceMethod yX3_head, Cond.selects RX3 yX3_head yX3_head, Cond.code yX3_head cX3_head 1 (some .int), Cond.methodLink RL 129 yL_length, Cond.static yL_length, Cond.codeWith yL_length cL_length 4 (some .int) [(0, 9, 12, 28)], Cond.methodLink RL 36 yX2_length, Cond.instanceMethod yX2_length, Cond.selects RX2 yX2_length yX2_length, Cond.code yX2_length cX2_length 2 (some .int), Cond.methodLink RX2 105 yX1_cellCount, Cond.methodLink RL 131 yX3_length, Cond.instanceMethod yX3_length, Cond.selects RX3 yX3_length yX3_length]
def wsL_law0_r16 : List Cond := [Cond.code yX3_length cX3_length 2 (some .int), Cond.methodLink RL 132 yL_sound, Cond.static yL_sound, Cond.codeWith yL_sound cL_sound 5 (some .int) [(0, 10, 13, 28)], Cond.methodLink RL 39 yX2_sound, Cond.instanceMethod yX2_sound, Cond.selects RX2 yX2_sound yX2_sound, Cond.code yX2_sound cX2_sound 3 (some .int), Cond.fieldLink RX2 112 "DictationBelt$State" "sounds" "[I", Cond.methodLink RX2 108 yX2_requirePlace, Cond.instanceMethod yX2_requirePlace, Cond.selects RX2 yX2_requirePlace yX2_requirePlace, Cond.code yX2_requirePlace cX2_requirePlace 3 none, Cond.methodLink RX2 116 yX1_cellAt, Cond.instanceMethod yX1_cellAt, Cond.selects RX1 yX1_cellAt yX1_cellAt, Cond.code yX1_cellAt cX1_cellAt 6 (some .int), Cond.methodLink RX2 119 yX2_valueAt, Cond.methodLink RL 135 yX3_sound, Cond.instanceMethod yX3_sound, Cond.selects RX3 yX3_sound yX3_sound, Cond.code yX3_sound cX3_sound 3 (some .int), Cond.methodLink RX3 91 yX3_ofPlace, Cond.instanceMethod yX3_ofPlace]
def wsL_law0_r17 : List Cond := [Cond.selects RX3 yX3_ofPlace yX3_ofPlace, Cond.code yX3_ofPlace cX3_ofPlace 5 (some .int), Cond.methodLink RX3 49 yX3_cellAt, Cond.instanceMethod yX3_cellAt, Cond.selects RX3 yX3_cellAt yX3_cellAt, Cond.code yX3_cellAt cX3_cellAt 4 (some .int), Cond.methodLink RL 136 yL_cellOf, Cond.static yL_cellOf, Cond.codeWith yL_cellOf cL_cellOf 5 (some .int) [(0, 10, 13, 28)], Cond.methodLink RL 43 yX2_cellOf, Cond.instanceMethod yX2_cellOf, Cond.selects RX2 yX2_cellOf yX2_cellOf, Cond.code yX2_cellOf cX2_cellOf 3 (some .int), Cond.methodLink RL 138 yX3_cellOf, Cond.instanceMethod yX3_cellOf, Cond.selects RX3 yX3_cellOf yX3_cellOf, Cond.code yX3_cellOf cX3_cellOf 3 (some .int), Cond.methodLink RL 139 yL_hasFlag, Cond.static yL_hasFlag, Cond.codeWith yL_hasFlag cL_hasFlag 4 (some .int) [(0, 16, 19, 28)], Cond.methodLink RL 46 yX2_hasFlag, Cond.instanceMethod yX2_hasFlag, Cond.selects RX2 yX2_hasFlag yX2_hasFlag, Cond.code yX2_hasFlag cX2_hasFlag 2 (some .boolean)]
def wsL_law0_r18 : List Cond := [Cond.methodLink RL 141 yX3_hasFlag, Cond.instanceMethod yX3_hasFlag, Cond.selects RX3 yX3_hasFlag yX3_hasFlag, Cond.code yX3_hasFlag cX3_hasFlag 2 (some .boolean), Cond.methodLink RL 142 yL_lost, Cond.static yL_lost, Cond.codeWith yL_lost cL_lost 4 (some .int) [(0, 9, 12, 28)], Cond.methodLink RL 50 yX2_lost, Cond.instanceMethod yX2_lost, Cond.selects RX2 yX2_lost yX2_lost, Cond.code yX2_lost cX2_lost 2 (some .int), Cond.fieldLink RX2 123 "DictationBelt$State" "losses" "[I", Cond.methodLink RL 144 yX3_lost, Cond.instanceMethod yX3_lost, Cond.selects RX3 yX3_lost yX3_lost, Cond.code yX3_lost cX3_lost 2 (some .int), Cond.methodLink RL 145 yL_owner, Cond.static yL_owner, Cond.codeWith yL_owner cL_owner 4 (some .int) [(0, 9, 12, 28)], Cond.methodLink RL 53 yX2_owner, Cond.instanceMethod yX2_owner, Cond.selects RX2 yX2_owner yX2_owner, Cond.code yX2_owner cX2_owner 2 (some .int), Cond.fieldLink RX2 126 "DictationBelt$State" "owners" "[I"]
def wsL_law0_r19 : List Cond := [Cond.methodLink RL 147 yX3_owner, Cond.instanceMethod yX3_owner, Cond.selects RX3 yX3_owner yX3_owner, Cond.code yX3_owner cX3_owner 2 (some .int), Cond.methodLink RL 148 yX2_free, Cond.instanceMethod yX2_free, Cond.selects RX2 yX2_free yX2_free, Cond.code yX2_free cX2_free 1 (some .int), Cond.fieldLink RX2 129 "DictationBelt$State" "used" "I", Cond.methodLink RL 151 yX3_free, Cond.instanceMethod yX3_free, Cond.selects RX3 yX3_free yX3_free, Cond.code yX3_free cX3_free 1 (some .int), Cond.methodLink RL 152 yX2_spoken, Cond.instanceMethod yX2_spoken, Cond.selects RX2 yX2_spoken yX2_spoken, Cond.code yX2_spoken cX2_spoken 1 (some .int), Cond.fieldLink RX2 132 "DictationBelt$State" "spoken" "I", Cond.methodLink RL 155 yX3_spoken, Cond.instanceMethod yX3_spoken, Cond.selects RX3 yX3_spoken yX3_spoken, Cond.code yX3_spoken cX3_spoken 1 (some .int), Cond.methodLink RL 156 yX2_gone, Cond.instanceMethod yX2_gone]
def wsL_law0_r20 : List Cond := [Cond.selects RX2 yX2_gone yX2_gone, Cond.code yX2_gone cX2_gone 1 (some .int), Cond.fieldLink RX2 135 "DictationBelt$State" "gone" "I", Cond.methodLink RL 159 yX3_gone, Cond.instanceMethod yX3_gone, Cond.selects RX3 yX3_gone yX3_gone, Cond.code yX3_gone cX3_gone 1 (some .int), Cond.methodLink RL 160 yX2_usedShare, Cond.instanceMethod yX2_usedShare, Cond.selects RX2 yX2_usedShare yX2_usedShare, Cond.code yX2_usedShare cX2_usedShare 1 (some .double), Cond.constantDouble RX2 138 (4629700416936869888), Cond.methodLink RL 164 yX3_usedShare, Cond.instanceMethod yX3_usedShare, Cond.selects RX3 yX3_usedShare yX3_usedShare, Cond.code yX3_usedShare cX3_usedShare 1 (some .double), Cond.constantDouble RX3 95 (4629700416936869888), Cond.methodLink RL 165 yL_go, Cond.static yL_go, Cond.codeWith yL_go cL_go 4 (some .int) [(0, 9, 12, 28)], Cond.methodLink RL 56 yX2_go, Cond.instanceMethod yX2_go, Cond.selects RX2 yX2_go yX2_go, Cond.code yX2_go cX2_go 2 (some .int)]
def wsL_law0_r21 : List Cond := [Cond.methodLink RX2 140 yX1_bringPlayer, Cond.instanceMethod yX1_bringPlayer, Cond.selects RX1 yX1_bringPlayer yX1_bringPlayer, Cond.code yX1_bringPlayer cX1_bringPlayer 2 none, Cond.methodLink RL 167 yX3_go, Cond.instanceMethod yX3_go, Cond.selects RX3 yX3_go yX3_go, Cond.code yX3_go cX3_go 2 (some .int), Cond.methodLink RX3 97 yX3_goes, Cond.instanceMethod yX3_goes, Cond.selects RX3 yX3_goes yX3_goes, Cond.code yX3_goes cX3_goes 2 (some .int), Cond.methodLink RL 168 yL_play, Cond.static yL_play, Cond.codeWith yL_play cL_play 3 (some .int) [(0, 8, 11, 13)], Cond.methodLink RL 59 yX2_play, Cond.instanceMethod yX2_play, Cond.selects RX2 yX2_play yX2_play, Cond.code yX2_play cX2_play 1 (some .int), Cond.methodLink RX2 143 yX2_requirePlayer, Cond.instanceMethod yX2_requirePlayer, Cond.selects RX2 yX2_requirePlayer yX2_requirePlayer, Cond.code yX2_requirePlayer cX2_requirePlayer 1 none, Cond.fieldLink RX2 157 "DictationBelt$State" "player" "I"]
def wsL_law0_r22 : List Cond := [Cond.methodLink RX2 146 yX1_playCell, Cond.instanceMethod yX1_playCell, Cond.selects RX1 yX1_playCell yX1_playCell, Cond.code yX1_playCell cX1_playCell 2 (some .int), Cond.methodLink RX1 111 yX1_cellAt, Cond.methodLink RL 170 yX3_play, Cond.instanceMethod yX3_play, Cond.selects RX3 yX3_play yX3_play, Cond.code yX3_play cX3_play 1 (some .int), Cond.methodLink RX3 100 yX3_plays, Cond.instanceMethod yX3_plays, Cond.selects RX3 yX3_plays yX3_plays, Cond.code yX3_plays cX3_plays 2 (some .int), Cond.methodLink RL 171 yL_back, Cond.static yL_back, Cond.codeWith yL_back cL_back 4 (some .int) [(0, 9, 12, 22), (0, 9, 15, 13)], Cond.methodLink RL 62 yX2_back, Cond.instanceMethod yX2_back, Cond.selects RX2 yX2_back yX2_back, Cond.code yX2_back cX2_back 2 (some .int), Cond.methodLink RX2 154 yX1_stepBack, Cond.instanceMethod yX1_stepBack, Cond.selects RX1 yX1_stepBack yX1_stepBack, Cond.code yX1_stepBack cX1_stepBack 2 (some .int)]
def wsL_law0_r23 : List Cond := [Cond.methodLink RX1 115 Lib.Math.max.name, Cond.static Lib.Math.max.name, Cond.initialized "java/lang/Math", Cond.code Lib.Math.max.name Lib.Math.max.code 2 (some .int), Cond.methodLink RL 173 yX3_back, Cond.instanceMethod yX3_back, Cond.selects RX3 yX3_back yX3_back, Cond.code yX3_back cX3_back 2 (some .int), Cond.methodLink RX3 103 yX3_goesBack, Cond.instanceMethod yX3_goesBack, Cond.selects RX3 yX3_goesBack yX3_goesBack, Cond.code yX3_goesBack cX3_goesBack 2 (some .int), Cond.methodLink RL 174 yX2_playing, Cond.instanceMethod yX2_playing, Cond.selects RX2 yX2_playing yX2_playing, Cond.code yX2_playing cX2_playing 1 (some .int), Cond.methodLink RL 177 yX3_playing, Cond.instanceMethod yX3_playing, Cond.selects RX3 yX3_playing yX3_playing, Cond.code yX3_playing cX3_playing 1 (some .int), Cond.methodLink RL 178 yX2_place, Cond.instanceMethod yX2_place, Cond.selects RX2 yX2_place yX2_place, Cond.code yX2_place cX2_place 1 (some .int)]
def wsL_law0_r24 : List Cond := [Cond.fieldLink RX2 160 "DictationBelt$State" "place" "I", Cond.methodLink RL 181 yX3_place, Cond.instanceMethod yX3_place, Cond.selects RX3 yX3_place yX3_place, Cond.code yX3_place cX3_place 1 (some .int), Cond.methodLink RL 182 yL_correct, Cond.static yL_correct, Cond.codeWith yL_correct cL_correct 6 (some .int) [(0, 12, 15, 28), (0, 12, 19, 22), (0, 12, 23, 13)], Cond.methodLink RL 65 yX2_correct, Cond.instanceMethod yX2_correct, Cond.selects RX2 yX2_correct yX2_correct, Cond.code yX2_correct cX2_correct 6 (some .int), Cond.methodLink RX2 163 yX2_putAt, Cond.methodLink RL 185 yX3_correct, Cond.instanceMethod yX3_correct, Cond.selects RX3 yX3_correct yX3_correct, Cond.code yX3_correct cX3_correct 6 (some .int), Cond.methodLink RL 186 yL_carbon, Cond.static yL_carbon, Cond.codeWith yL_carbon cL_carbon 5 (some .int) [(0, 10, 13, 28)], Cond.methodLink RL 69 yX2_carbon, Cond.instanceMethod yX2_carbon, Cond.selects RX2 yX2_carbon yX2_carbon, Cond.code yX2_carbon cX2_carbon 3 (some .int)]
def wsL_law0_r25 : List Cond := [Cond.fieldLink RX2 167 "DictationBelt$State" "carbons" "[I", Cond.methodLink RL 188 yX3_carbon, Cond.instanceMethod yX3_carbon, Cond.selects RX3 yX3_carbon yX3_carbon, Cond.code yX3_carbon cX3_carbon 3 (some .int), Cond.methodLink RL 189 yX2_corrected, Cond.instanceMethod yX2_corrected, Cond.selects RX2 yX2_corrected yX2_corrected, Cond.code yX2_corrected cX2_corrected 1 (some .int), Cond.methodLink RX2 170 yX1_correctedCells, Cond.instanceMethod yX1_correctedCells, Cond.selects RX1 yX1_correctedCells yX1_correctedCells, Cond.code yX1_correctedCells cX1_correctedCells 3 (some .int), Cond.methodLink RL 192 yX3_corrected, Cond.instanceMethod yX3_corrected, Cond.selects RX3 yX3_corrected yX3_corrected, Cond.code yX3_corrected cX3_corrected 1 (some .int), Cond.methodLink RX3 106 yX3_correctedCells, Cond.instanceMethod yX3_correctedCells, Cond.selects RX3 yX3_correctedCells yX3_correctedCells, Cond.code yX3_correctedCells cX3_correctedCells 3 (some .int), Cond.methodLink RL 193 yX2_room, Cond.instanceMethod yX2_room, Cond.selects RX2 yX2_room yX2_room]
def wsL_law0_r26 : List Cond := [Cond.code yX2_room cX2_room 1 (some .int), Cond.methodLink RX2 173 yX1_writableCells, Cond.methodLink RL 196 yX3_room, Cond.instanceMethod yX3_room, Cond.selects RX3 yX3_room yX3_room, Cond.code yX3_room cX3_room 1 (some .int), Cond.methodLink RL 197 yX2_nextLoser, Cond.instanceMethod yX2_nextLoser, Cond.selects RX2 yX2_nextLoser yX2_nextLoser, Cond.code yX2_nextLoser cX2_nextLoser 1 (some .int), Cond.methodLink RX2 176 yX1_firstLoser, Cond.instanceMethod yX1_firstLoser, Cond.selects RX1 yX1_firstLoser yX1_firstLoser, Cond.code yX1_firstLoser cX1_firstLoser 4 (some .int), Cond.methodLink RL 200 yX3_nextLoser, Cond.instanceMethod yX3_nextLoser, Cond.selects RX3 yX3_nextLoser yX3_nextLoser, Cond.code yX3_nextLoser cX3_nextLoser 1 (some .int), Cond.methodLink RX3 109 yX3_loser, Cond.instanceMethod yX3_loser, Cond.selects RX3 yX3_loser yX3_loser, Cond.code yX3_loser cX3_loser 3 (some .int), Cond.methodLink RL 201 yL_lossOf, Cond.static yL_lossOf]
def wsL_law0_r27 : List Cond := [Cond.codeWith yL_lossOf cL_lossOf 5 (some .int) [(0, 10, 13, 28), (0, 10, 17, 22)], Cond.methodLink RL 72 yX2_lossOf, Cond.instanceMethod yX2_lossOf, Cond.selects RX2 yX2_lossOf yX2_lossOf, Cond.code yX2_lossOf cX2_lossOf 3 (some .int), Cond.methodLink RX2 179 yX2_requireForecast, Cond.static yX2_requireForecast, Cond.code yX2_requireForecast cX2_requireForecast 1 none, Cond.methodLink RX2 182 yX1_lossAfter, Cond.instanceMethod yX1_lossAfter, Cond.selects RX1 yX1_lossAfter yX1_lossAfter, Cond.code yX1_lossAfter cX1_lossAfter 7 (some .int), Cond.methodLink RL 203 yX3_lossOf, Cond.instanceMethod yX3_lossOf, Cond.selects RX3 yX3_lossOf yX3_lossOf, Cond.code yX3_lossOf cX3_lossOf 3 (some .int), Cond.methodLink RX3 112 yX3_loss, Cond.instanceMethod yX3_loss, Cond.selects RX3 yX3_loss yX3_loss, Cond.code yX3_loss cX3_loss 8 (some .int), Cond.methodLink RL 204 yL_goneAfter, Cond.static yL_goneAfter, Cond.codeWith yL_goneAfter cL_goneAfter 4 (some .int) [(0, 9, 12, 22)], Cond.methodLink RL 75 yX2_goneAfter]
def wsL_law0_r28 : List Cond := [Cond.instanceMethod yX2_goneAfter, Cond.selects RX2 yX2_goneAfter yX2_goneAfter, Cond.code yX2_goneAfter cX2_goneAfter 5 (some .int), Cond.methodLink RL 206 yX3_goneAfter, Cond.instanceMethod yX3_goneAfter, Cond.selects RX3 yX3_goneAfter yX3_goneAfter, Cond.code yX3_goneAfter cX3_goneAfter 5 (some .int), Cond.methodLink RL 207 yL_append, Cond.static yL_append, Cond.codeWith yL_append cL_append 4 (some .int) [(0, 9, 12, 22), (0, 9, 15, 13)], Cond.methodLink RL 78 yX2_append, Cond.instanceMethod yX2_append, Cond.selects RX2 yX2_append yX2_append, Cond.code yX2_append cX2_append 2 (some .int), Cond.fieldLink RX2 187 "DictationBelt$OrderText" "length" "I", Cond.methodLink RX2 192 yX0_add, Cond.instanceMethod yX0_add, Cond.selects RX0 yX0_add yX0_add, Cond.code yX0_add cX0_add 2 none, Cond.methodLink RL 209 yX3_append, Cond.instanceMethod yX3_append, Cond.selects RX3 yX3_append yX3_append, Cond.code yX3_append cX3_append 2 (some .int), Cond.fieldLink RX3 115 "DictationBeltModel" "length" "I"]
def wsL_law0_r29 : List Cond := [Cond.methodLink RL 210 yX2_clearText, Cond.instanceMethod yX2_clearText, Cond.selects RX2 yX2_clearText yX2_clearText, Cond.code yX2_clearText cX2_clearText 2 (some .int), Cond.methodLink RL 213 yX3_clearText, Cond.instanceMethod yX3_clearText, Cond.selects RX3 yX3_clearText yX3_clearText, Cond.code yX3_clearText cX3_clearText 2 (some .int), Cond.methodLink RL 214 yX2_firstError, Cond.instanceMethod yX2_firstError, Cond.selects RX2 yX2_firstError yX2_firstError, Cond.code yX2_firstError cX2_firstError 1 (some .int), Cond.methodLink RX2 195 yX0_errorIndex, Cond.instanceMethod yX0_errorIndex, Cond.selects RX0 yX0_errorIndex yX0_errorIndex, Cond.code yX0_errorIndex cX0_errorIndex 3 (some .int), Cond.methodLink RX0 27 yX0_stageAfter, Cond.static yX0_stageAfter, Cond.code yX0_stageAfter cX0_stageAfter 2 (some .int), Cond.methodLink RX0 31 yX0_stageAfterLetter, Cond.static yX0_stageAfterLetter, Cond.code yX0_stageAfterLetter cX0_stageAfterLetter 1 (some .int), Cond.methodLink RX0 35 yX0_isIn, Cond.static yX0_isIn]
def wsL_law0_r30 : List Cond := [Cond.code yX0_isIn cX0_isIn 3 (some .boolean), Cond.methodLink RX0 39 yX0_stageAfterFirstOfTimes, Cond.static yX0_stageAfterFirstOfTimes, Cond.code yX0_stageAfterFirstOfTimes cX0_stageAfterFirstOfTimes 1 (some .int), Cond.methodLink RL 217 yX3_firstError, Cond.instanceMethod yX3_firstError, Cond.selects RX3 yX3_firstError yX3_firstError, Cond.code yX3_firstError cX3_firstError 1 (some .int), Cond.fieldLink RX3 118 "DictationBeltModel" "at" "I", Cond.methodLink RX3 142 yX3_areOrders, Cond.instanceMethod yX3_areOrders, Cond.selects RX3 yX3_areOrders yX3_areOrders, Cond.code yX3_areOrders cX3_areOrders 1 (some .boolean), Cond.methodLink RX3 139 yX3_readsOrder, Cond.instanceMethod yX3_readsOrder, Cond.selects RX3 yX3_readsOrder yX3_readsOrder, Cond.code yX3_readsOrder cX3_readsOrder 1 (some .boolean), Cond.fieldLink RX3 124 "DictationBeltModel" "letter" "I", Cond.fieldLink RX3 133 "DictationBeltModel" "second" "I", Cond.fieldLink RX3 136 "DictationBeltModel" "first" "I", Cond.methodLink RX3 121 yX3_sign, Cond.instanceMethod yX3_sign, Cond.selects RX3 yX3_sign yX3_sign, Cond.code yX3_sign cX3_sign 1 (some .int)]
def wsL_law0_r31 : List Cond := [Cond.methodLink RX3 127 yX3_takes, Cond.instanceMethod yX3_takes, Cond.selects RX3 yX3_takes yX3_takes, Cond.code yX3_takes cX3_takes 3 (some .boolean), Cond.methodLink RX3 130 yX3_number, Cond.instanceMethod yX3_number, Cond.selects RX3 yX3_number yX3_number, Cond.code yX3_number cX3_number 4 (some .int), Cond.methodLink RL 218 yL_run, Cond.static yL_run, Cond.codeWith yL_run cL_run 3 (some .int) [(0, 8, 11, 22)], Cond.methodLink RL 81 yX2_run, Cond.instanceMethod yX2_run, Cond.selects RX2 yX2_run yX2_run, Cond.code yX2_run cX2_run 2 (some .int), Cond.methodLink RX2 198 yX0_isComplete, Cond.instanceMethod yX0_isComplete, Cond.selects RX0 yX0_isComplete yX0_isComplete, Cond.code yX0_isComplete cX0_isComplete 3 (some .boolean), Cond.methodLink RX2 203 yX2_obeyOrders, Cond.instanceMethod yX2_obeyOrders, Cond.selects RX2 yX2_obeyOrders yX2_obeyOrders, Cond.code yX2_obeyOrders cX2_obeyOrders 8 (some .int), Cond.methodLink RX2 260 Lib.Math.min.name]
def wsL_law0_r32 : List Cond := [Cond.static Lib.Math.min.name, Cond.code Lib.Math.min.name Lib.Math.min.code 2 (some .int), Cond.fieldLink RX2 265 "DictationBelt$OrderText" "codes" "[I", Cond.methodLink RX2 268 yX2_mayObey, Cond.instanceMethod yX2_mayObey, Cond.selects RX2 yX2_mayObey yX2_mayObey, Cond.code yX2_mayObey cX2_mayObey 4 (some .boolean), Cond.methodLink RX2 272 yX2_obey, Cond.instanceMethod yX2_obey, Cond.selects RX2 yX2_obey yX2_obey, Cond.code yX2_obey cX2_obey 4 none, Cond.methodLink RL 220 yX3_run, Cond.instanceMethod yX3_run, Cond.selects RX3 yX3_run yX3_run, Cond.code yX3_run cX3_run 2 (some .int), Cond.methodLink RX3 145 yX3_can, Cond.instanceMethod yX3_can, Cond.selects RX3 yX3_can yX3_can, Cond.code yX3_can cX3_can 1 (some .boolean), Cond.methodLink RX3 148 yX3_does, Cond.instanceMethod yX3_does, Cond.selects RX3 yX3_does yX3_does, Cond.code yX3_does cX3_does 2 none, Cond.methodLink RL 221 yL_undo]
def wsL_law0_r33 : List Cond := [Cond.static yL_undo, Cond.codeWith yL_undo cL_undo 3 (some .int) [(0, 8, 11, 13)], Cond.methodLink RL 84 yX2_undo, Cond.instanceMethod yX2_undo, Cond.selects RX2 yX2_undo yX2_undo, Cond.code yX2_undo cX2_undo 2 (some .int), Cond.methodLink RL 223 yX3_undo, Cond.instanceMethod yX3_undo, Cond.selects RX3 yX3_undo yX3_undo, Cond.code yX3_undo cX3_undo 1 (some .int), Cond.methodLink RL 224 yX2_savedStates, Cond.instanceMethod yX2_savedStates, Cond.selects RX2 yX2_savedStates yX2_savedStates, Cond.code yX2_savedStates cX2_savedStates 1 (some .int), Cond.methodLink RL 227 yX3_savedStates, Cond.instanceMethod yX3_savedStates, Cond.selects RX3 yX3_savedStates yX3_savedStates, Cond.code yX3_savedStates cX3_savedStates 1 (some .int), Cond.methodLink RL 228 yX2_digest, Cond.instanceMethod yX2_digest, Cond.selects RX2 yX2_digest yX2_digest, Cond.code yX2_digest cX2_digest 4 (some .long), Cond.constantLong RX2 216 (4444), Cond.methodLink RX2 218 yX2_recordings]
def wsL_law0_r34 : List Cond := [Cond.methodLink RX2 221 yX2_mixed, Cond.static yX2_mixed, Cond.code yX2_mixed cX2_mixed 4 (some .long), Cond.constantLong RX2 258 (31), Cond.methodLink RX2 225 yX2_running, Cond.methodLink RX2 228 yX2_head, Cond.methodLink RX2 230 yX2_free, Cond.methodLink RX2 233 yX2_spoken, Cond.methodLink RX2 235 yX2_gone, Cond.methodLink RX2 237 yX2_playing, Cond.methodLink RX2 240 yX2_place, Cond.methodLink RX2 242 yX2_corrected, Cond.methodLink RX2 245 yX2_room, Cond.methodLink RX2 248 yX2_nextLoser, Cond.methodLink RX2 251 yX2_withRecording, Cond.instanceMethod yX2_withRecording, Cond.selects RX2 yX2_withRecording yX2_withRecording, Cond.code yX2_withRecording cX2_withRecording 8 (some .long), Cond.fieldLink RX2 255 "DictationBelt$State" "order" "[I", Cond.methodLink RL 232 yX3_digest, Cond.instanceMethod yX3_digest, Cond.selects RX3 yX3_digest yX3_digest, Cond.code yX3_digest cX3_digest 5 (some .long), Cond.constantLong RX3 157 (4444)]
def wsL_law0_r35 : List Cond := [Cond.fieldLink RX3 153 "DictationBeltModel" "hash" "J", Cond.methodLink RX3 159 yX3_mix, Cond.instanceMethod yX3_mix, Cond.selects RX3 yX3_mix yX3_mix, Cond.code yX3_mix cX3_mix 3 none, Cond.constantLong RX3 151 (31)]
def wsL_law0 : List Cond := (wsL_law0_r1 ++ (wsL_law0_r2 ++ (wsL_law0_r3 ++ (wsL_law0_r4 ++ (wsL_law0_r5 ++ (wsL_law0_r6 ++ (wsL_law0_r7 ++ (wsL_law0_r8 ++ (wsL_law0_r9 ++ (wsL_law0_r10 ++ (wsL_law0_r11 ++ (wsL_law0_r12 ++ (wsL_law0_r13 ++ (wsL_law0_r14 ++ (wsL_law0_r15 ++ (wsL_law0_r16 ++ (wsL_law0_r17 ++ (wsL_law0_r18 ++ (wsL_law0_r19 ++ (wsL_law0_r20 ++ (wsL_law0_r21 ++ (wsL_law0_r22 ++ (wsL_law0_r23 ++ (wsL_law0_r24 ++ (wsL_law0_r25 ++ (wsL_law0_r26 ++ (wsL_law0_r27 ++ (wsL_law0_r28 ++ (wsL_law0_r29 ++ (wsL_law0_r30 ++ (wsL_law0_r31 ++ (wsL_law0_r32 ++ (wsL_law0_r33 ++ (wsL_law0_r34 ++ wsL_law0_r35)))))))))))))))))))))))))))))))))) ++ wsX20 ++ wsX30 ++ wsX10 ++ wsX00 ++ ([] : List Cond)
def wsL_law : List Cond := wsL_law0 ++ (vx_atS RX2 42 "java/lang/IllegalStateException" ["java/lang/RuntimeException", "java/lang/Exception"]).filter goodWord ++ (vx_atS RX2 153 "java/lang/IllegalArgumentException" ["java/lang/RuntimeException", "java/lang/Exception"]).filter goodWord ++ (vx_atS RX2 283 "java/lang/IndexOutOfBoundsException" ["java/lang/RuntimeException", "java/lang/Exception"]).filter goodWord
set_option maxRecDepth 20000 in
theorem wsL_law0_r1_in : ∀ w ∈ wsL_law0_r1, w ∈ lw_tbl := fun w h => (goodIn_p wsL_law0_r1 [59, 62] (by decide +kernel) (by decide +kernel) w h).1
set_option maxRecDepth 20000 in
theorem wsL_law0_r2_in : ∀ w ∈ wsL_law0_r2, w ∈ lw_tbl := fun w h => (goodIn_p wsL_law0_r2 [67, 131] (by decide +kernel) (by decide +kernel) w h).1
set_option maxRecDepth 20000 in
theorem wsL_law0_r3_in : ∀ w ∈ wsL_law0_r3, w ∈ lw_tbl := fun w h => (goodIn_p wsL_law0_r3 [718, 304, 308] (by decide +kernel) (by decide +kernel) w h).1
set_option maxRecDepth 20000 in
theorem wsL_law0_r4_in : ∀ w ∈ wsL_law0_r4, w ∈ lw_tbl := fun w h => (goodIn_p wsL_law0_r4 [169, 291, 209, 381, 385, 389] (by decide +kernel) (by decide +kernel) w h).1
set_option maxRecDepth 20000 in
theorem wsL_law0_r5_in : ∀ w ∈ wsL_law0_r5, w ∈ lw_tbl := fun w h => (goodIn_p wsL_law0_r5 [396, 400, 404, 407, 758, 762] (by decide +kernel) (by decide +kernel) w h).1
set_option maxRecDepth 20000 in
theorem wsL_law0_r6_in : ∀ w ∈ wsL_law0_r6, w ∈ lw_tbl := fun w h => (goodIn_p wsL_law0_r6 [766, 770, 774, 778, 782, 786] (by decide +kernel) (by decide +kernel) w h).1
set_option maxRecDepth 20000 in
theorem wsL_law0_r7_in : ∀ w ∈ wsL_law0_r7, w ∈ lw_tbl := fun w h => (goodIn_p wsL_law0_r7 [790, 754, 414, 794] (by decide +kernel) (by decide +kernel) w h).1
set_option maxRecDepth 20000 in
theorem wsL_law0_r8_in : ∀ w ∈ wsL_law0_r8, w ∈ lw_tbl := fun w h => (goodIn_p wsL_law0_r8 [424, 427, 447, 217, 221] (by decide +kernel) (by decide +kernel) w h).1
set_option maxRecDepth 20000 in
theorem wsL_law0_r9_in : ∀ w ∈ wsL_law0_r9, w ∈ lw_tbl := fun w h => (goodIn_p wsL_law0_r9 [453, 457, 234, 461, 465, 469] (by decide +kernel) (by decide +kernel) w h).1
set_option maxRecDepth 20000 in
theorem wsL_law0_r10_in : ∀ w ∈ wsL_law0_r10, w ∈ lw_tbl := fun w h => (goodIn_p wsL_law0_r10 [473, 798, 801, 804, 808, 812, 816] (by decide +kernel) (by decide +kernel) w h).1
set_option maxRecDepth 20000 in
theorem wsL_law0_r11_in : ∀ w ∈ wsL_law0_r11, w ∈ lw_tbl := fun w h => (goodIn_p wsL_law0_r11 [820, 824, 828, 481, 485] (by decide +kernel) (by decide +kernel) w h).1
set_option maxRecDepth 20000 in
theorem wsL_law0_r12_in : ∀ w ∈ wsL_law0_r12, w ∈ lw_tbl := fun w h => (goodIn_p wsL_law0_r12 [489, 295, 509, 832, 836] (by decide +kernel) (by decide +kernel) w h).1
set_option maxRecDepth 20000 in
theorem wsL_law0_r13_in : ∀ w ∈ wsL_law0_r13, w ∈ lw_tbl := fun w h => (goodIn_p wsL_law0_r13 [516, 521, 840, 528, 531] (by decide +kernel) (by decide +kernel) w h).1
set_option maxRecDepth 20000 in
theorem wsL_law0_r14_in : ∀ w ∈ wsL_law0_r14, w ∈ lw_tbl := fun w h => (goodIn_p wsL_law0_r14 [844, 847, 161, 851, 855, 165] (by decide +kernel) (by decide +kernel) w h).1
set_option maxRecDepth 20000 in
theorem wsL_law0_r15_in : ∀ w ∈ wsL_law0_r15, w ∈ lw_tbl := fun w h => (goodIn_p wsL_law0_r15 [859, 173, 863, 540] (by decide +kernel) (by decide +kernel) w h).1
set_option maxRecDepth 20000 in
theorem wsL_law0_r16_in : ∀ w ∈ wsL_law0_r16, w ∈ lw_tbl := fun w h => (goodIn_p wsL_law0_r16 [867, 547, 551, 556, 871] (by decide +kernel) (by decide +kernel) w h).1
set_option maxRecDepth 20000 in
theorem wsL_law0_r17_in : ∀ w ∈ wsL_law0_r17, w ∈ lw_tbl := fun w h => (goodIn_p wsL_law0_r17 [875, 879, 563, 883, 570] (by decide +kernel) (by decide +kernel) w h).1
set_option maxRecDepth 20000 in
theorem wsL_law0_r18_in : ∀ w ∈ wsL_law0_r18, w ∈ lw_tbl := fun w h => (goodIn_p wsL_law0_r18 [887, 577, 891, 584] (by decide +kernel) (by decide +kernel) w h).1
set_option maxRecDepth 20000 in
theorem wsL_law0_r19_in : ∀ w ∈ wsL_law0_r19, w ∈ lw_tbl := fun w h => (goodIn_p wsL_law0_r19 [895, 177, 899, 181, 903] (by decide +kernel) (by decide +kernel) w h).1
set_option maxRecDepth 20000 in
theorem wsL_law0_r20_in : ∀ w ∈ wsL_law0_r20, w ∈ lw_tbl := fun w h => (goodIn_p wsL_law0_r20 [185, 907, 189, 911, 591] (by decide +kernel) (by decide +kernel) w h).1
set_option maxRecDepth 20000 in
theorem wsL_law0_r21_in : ∀ w ∈ wsL_law0_r21, w ∈ lw_tbl := fun w h => (goodIn_p wsL_law0_r21 [595, 916, 920, 602, 606] (by decide +kernel) (by decide +kernel) w h).1
set_option maxRecDepth 20000 in
theorem wsL_law0_r22_in : ∀ w ∈ wsL_law0_r22, w ∈ lw_tbl := fun w h => (goodIn_p wsL_law0_r22 [611, 924, 928, 619, 624] (by decide +kernel) (by decide +kernel) w h).1
set_option maxRecDepth 20000 in
theorem wsL_law0_r23_in : ∀ w ∈ wsL_law0_r23, w ∈ lw_tbl := fun w h => (goodIn_p wsL_law0_r23 [627, 932, 936, 194, 940, 198] (by decide +kernel) (by decide +kernel) w h).1
set_option maxRecDepth 20000 in
theorem wsL_law0_r24_in : ∀ w ∈ wsL_law0_r24, w ∈ lw_tbl := fun w h => (goodIn_p wsL_law0_r24 [944, 634, 948, 642] (by decide +kernel) (by decide +kernel) w h).1
set_option maxRecDepth 20000 in
theorem wsL_law0_r25_in : ∀ w ∈ wsL_law0_r25, w ∈ lw_tbl := fun w h => (goodIn_p wsL_law0_r25 [952, 202, 206, 956, 960] (by decide +kernel) (by decide +kernel) w h).1
set_option maxRecDepth 20000 in
theorem wsL_law0_r26_in : ∀ w ∈ wsL_law0_r26, w ∈ lw_tbl := fun w h => (goodIn_p wsL_law0_r26 [213, 964, 226, 230, 968, 972] (by decide +kernel) (by decide +kernel) w h).1
set_option maxRecDepth 20000 in
theorem wsL_law0_r27_in : ∀ w ∈ wsL_law0_r27, w ∈ lw_tbl := fun w h => (goodIn_p wsL_law0_r27 [649, 652, 657, 976, 980] (by decide +kernel) (by decide +kernel) w h).1
set_option maxRecDepth 20000 in
theorem wsL_law0_r28_in : ∀ w ∈ wsL_law0_r28, w ∈ lw_tbl := fun w h => (goodIn_p wsL_law0_r28 [664, 984, 671, 677, 988] (by decide +kernel) (by decide +kernel) w h).1
set_option maxRecDepth 20000 in
theorem wsL_law0_r29_in : ∀ w ∈ wsL_law0_r29, w ∈ lw_tbl := fun w h => (goodIn_p wsL_law0_r29 [238, 992, 242, 246, 250, 253] (by decide +kernel) (by decide +kernel) w h).1
set_option maxRecDepth 20000 in
theorem wsL_law0_r30_in : ∀ w ∈ wsL_law0_r30, w ∈ lw_tbl := fun w h => (goodIn_p wsL_law0_r30 [256, 259, 996, 1000, 1004, 1008] (by decide +kernel) (by decide +kernel) w h).1
set_option maxRecDepth 20000 in
theorem wsL_law0_r31_in : ∀ w ∈ wsL_law0_r31, w ∈ lw_tbl := fun w h => (goodIn_p wsL_law0_r31 [1012, 1016, 685, 689, 694] (by decide +kernel) (by decide +kernel) w h).1
set_option maxRecDepth 20000 in
theorem wsL_law0_r32_in : ∀ w ∈ wsL_law0_r32, w ∈ lw_tbl := fun w h => (goodIn_p wsL_law0_r32 [697, 701, 705, 1020, 1024, 1028] (by decide +kernel) (by decide +kernel) w h).1
set_option maxRecDepth 20000 in
theorem wsL_law0_r33_in : ∀ w ∈ wsL_law0_r33, w ∈ lw_tbl := fun w h => (goodIn_p wsL_law0_r33 [712, 1032, 263, 1036, 267] (by decide +kernel) (by decide +kernel) w h).1
set_option maxRecDepth 20000 in
theorem wsL_law0_r34_in : ∀ w ∈ wsL_law0_r34, w ∈ lw_tbl := fun w h => (goodIn_p wsL_law0_r34 [272, 287, 1040] (by decide +kernel) (by decide +kernel) w h).1
set_option maxRecDepth 20000 in
theorem wsL_law0_r35_in : ∀ w ∈ wsL_law0_r35, w ∈ lw_tbl := fun w h => (goodIn_p wsL_law0_r35 [1045] (by decide +kernel) (by decide +kernel) w h).1
set_option maxRecDepth 20000 in
theorem wsX20_in : ∀ w ∈ wsX20, w ∈ lw_tbl := by decide +kernel
set_option maxRecDepth 20000 in
theorem wsX30_in : ∀ w ∈ wsX30, w ∈ lw_tbl := by decide +kernel
set_option maxRecDepth 20000 in
theorem wsX10_in : ∀ w ∈ wsX10, w ∈ lw_tbl := by decide +kernel
set_option maxRecDepth 20000 in
theorem wsX00_in : ∀ w ∈ wsX00, w ∈ lw_tbl := by decide +kernel
theorem wsL_law_in0 : ∀ w ∈ wsL_law0, w ∈ lw_tbl := List.forall_mem_append.mpr ⟨List.forall_mem_append.mpr ⟨List.forall_mem_append.mpr ⟨List.forall_mem_append.mpr ⟨List.forall_mem_append.mpr ⟨List.forall_mem_append.mpr ⟨wsL_law0_r1_in, List.forall_mem_append.mpr ⟨wsL_law0_r2_in, List.forall_mem_append.mpr ⟨wsL_law0_r3_in, List.forall_mem_append.mpr ⟨wsL_law0_r4_in, List.forall_mem_append.mpr ⟨wsL_law0_r5_in, List.forall_mem_append.mpr ⟨wsL_law0_r6_in, List.forall_mem_append.mpr ⟨wsL_law0_r7_in, List.forall_mem_append.mpr ⟨wsL_law0_r8_in, List.forall_mem_append.mpr ⟨wsL_law0_r9_in, List.forall_mem_append.mpr ⟨wsL_law0_r10_in, List.forall_mem_append.mpr ⟨wsL_law0_r11_in, List.forall_mem_append.mpr ⟨wsL_law0_r12_in, List.forall_mem_append.mpr ⟨wsL_law0_r13_in, List.forall_mem_append.mpr ⟨wsL_law0_r14_in, List.forall_mem_append.mpr ⟨wsL_law0_r15_in, List.forall_mem_append.mpr ⟨wsL_law0_r16_in, List.forall_mem_append.mpr ⟨wsL_law0_r17_in, List.forall_mem_append.mpr ⟨wsL_law0_r18_in, List.forall_mem_append.mpr ⟨wsL_law0_r19_in, List.forall_mem_append.mpr ⟨wsL_law0_r20_in, List.forall_mem_append.mpr ⟨wsL_law0_r21_in, List.forall_mem_append.mpr ⟨wsL_law0_r22_in, List.forall_mem_append.mpr ⟨wsL_law0_r23_in, List.forall_mem_append.mpr ⟨wsL_law0_r24_in, List.forall_mem_append.mpr ⟨wsL_law0_r25_in, List.forall_mem_append.mpr ⟨wsL_law0_r26_in, List.forall_mem_append.mpr ⟨wsL_law0_r27_in, List.forall_mem_append.mpr ⟨wsL_law0_r28_in, List.forall_mem_append.mpr ⟨wsL_law0_r29_in, List.forall_mem_append.mpr ⟨wsL_law0_r30_in, List.forall_mem_append.mpr ⟨wsL_law0_r31_in, List.forall_mem_append.mpr ⟨wsL_law0_r32_in, List.forall_mem_append.mpr ⟨wsL_law0_r33_in, List.forall_mem_append.mpr ⟨wsL_law0_r34_in, wsL_law0_r35_in⟩⟩⟩⟩⟩⟩⟩⟩⟩⟩⟩⟩⟩⟩⟩⟩⟩⟩⟩⟩⟩⟩⟩⟩⟩⟩⟩⟩⟩⟩⟩⟩⟩⟩, wsX20_in⟩, wsX30_in⟩, wsX10_in⟩, wsX00_in⟩, fun _ h => absurd h List.not_mem_nil⟩
theorem wsL_law_x0 : ∀ w ∈ (vx_atS RX2 42 "java/lang/IllegalStateException" ["java/lang/RuntimeException", "java/lang/Exception"]).filter goodWord, w ∈ lw_tbl := by decide +kernel
theorem wsL_law_x1 : ∀ w ∈ (vx_atS RX2 153 "java/lang/IllegalArgumentException" ["java/lang/RuntimeException", "java/lang/Exception"]).filter goodWord, w ∈ lw_tbl := by decide +kernel
theorem wsL_law_x2 : ∀ w ∈ (vx_atS RX2 283 "java/lang/IndexOutOfBoundsException" ["java/lang/RuntimeException", "java/lang/Exception"]).filter goodWord, w ∈ lw_tbl := by decide +kernel
theorem wsL_law_in : ∀ w ∈ wsL_law, w ∈ lw_tbl := fun w h => (List.mem_append.mp h).elim (fun h => (List.mem_append.mp h).elim (fun h => (List.mem_append.mp h).elim (fun h => wsL_law_in0 w h) (fun h => wsL_law_x0 w h)) (fun h => wsL_law_x1 w h)) (fun h => wsL_law_x2 w h)
theorem inlX0 : ∀ w ∈ wsX00, w ∈ wsL_law := fun _ h => List.mem_append_left _ (List.mem_append_left _ (List.mem_append_left _ (List.mem_append_left _ (List.mem_append_right _ h))))
theorem inX0 : ∀ w ∈ wsX00, w ∈ lw_tbl := fun w h => wsL_law_in w (inlX0 w h)
theorem inlX1 : ∀ w ∈ wsX10, w ∈ wsL_law := fun _ h => List.mem_append_left _ (List.mem_append_left _ (List.mem_append_left _ (List.mem_append_left _ (List.mem_append_left _ (List.mem_append_right _ h)))))
theorem inX1 : ∀ w ∈ wsX10, w ∈ lw_tbl := fun w h => wsL_law_in w (inlX1 w h)
theorem inlX2 : ∀ w ∈ wsX20, w ∈ wsL_law := fun _ h => List.mem_append_left _ (List.mem_append_left _ (List.mem_append_left _ (List.mem_append_left _ (List.mem_append_left _ (List.mem_append_left _ (List.mem_append_left _ (List.mem_append_right _ h)))))))
theorem inX2 : ∀ w ∈ wsX20, w ∈ lw_tbl := fun w h => wsL_law_in w (inlX2 w h)
theorem inlX3 : ∀ w ∈ wsX30, w ∈ wsL_law := fun _ h => List.mem_append_left _ (List.mem_append_left _ (List.mem_append_left _ (List.mem_append_left _ (List.mem_append_left _ (List.mem_append_left _ (List.mem_append_right _ h))))))
theorem inX3 : ∀ w ∈ wsX30, w ∈ lw_tbl := fun w h => wsL_law_in w (inlX3 w h)
theorem inJ9 : ∀ w ∈ wsJ90, w ∈ lw_tbl := by decide +kernel
theorem inJ0 : ∀ w ∈ wsJ00, w ∈ lw_tbl := by decide +kernel
theorem inJ10 : ∀ w ∈ wsJ100, w ∈ lw_tbl := by decide +kernel
abbrev vwCl : List vw_C := [(RX0, TX0, 2), (RX1, TX1, 14), (RX2, TX2, 5), (RX3, TX3, 10)]
