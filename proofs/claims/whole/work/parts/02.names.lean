/-! ===== BEGIN printed: names, fields, word lists, decode rows ===== -/
def RX0 : String := "ForesightHub$ErrorBook"
def TX0 : u_T := fun k => match k with
  | 0 => ("ForesightHub$ErrorBook", "kept", "[I", true)
  | 1 => ("ForesightHub$ErrorBook", "kinds", "[I", true)
  | 2 => ("ForesightHub$ErrorBook", "times", "[I", true)
  | 3 => ("ForesightHub$ErrorBook", "causes", "I", false)
  | 4 => ("ForesightHub$ErrorBook", "causeOrder", "[I", true)
  | _ => ("ForesightHub$ErrorBook", "causeTotals", "[I", true)
def tyX0 : Nat → FieldType := fun k => match k with
  | 0 => .array .int
  | 1 => .array .int
  | 2 => .array .int
  | 3 => .int
  | 4 => .array .int
  | _ => .array .int
abbrev wsX00 : List Cond := u_ws RX0 TX0 6
theorem nmX0 : ∀ a, a < 6 → ∀ b, b < 6 → a ≠ b → (TX0 a).2.1 ≠ (TX0 b).2.1 := by decide +kernel
theorem tyX0_ok : ∀ k, k < 6 → parseFieldDescriptor (TX0 k).2.2.1 = some (tyX0 k) := by decide +kernel
abbrev cX0_init : ByteArray := prog_2_method_1_code
def yX0_init : MethodName := ⟨RX0, "<init>", "()V"⟩
abbrev cX0_clear : ByteArray := prog_2_method_2_code
def yX0_clear : MethodName := ⟨RX0, "clear", "()V"⟩
abbrev cX0_copyFrom : ByteArray := prog_2_method_3_code
def yX0_copyFrom : MethodName := ⟨RX0, "copyFrom", "(LForesightHub$ErrorBook;)V"⟩
abbrev cX0_add : ByteArray := prog_2_method_4_code
def yX0_add : MethodName := ⟨RX0, "add", "(III)V"⟩
abbrev cX0_dropOldest : ByteArray := prog_2_method_5_code
def yX0_dropOldest : MethodName := ⟨RX0, "dropOldest", "(I)V"⟩
abbrev cX0_countCause : ByteArray := prog_2_method_6_code
def yX0_countCause : MethodName := ⟨RX0, "countCause", "(I)V"⟩
abbrev cX0_forget : ByteArray := prog_2_method_7_code
def yX0_forget : MethodName := ⟨RX0, "forget", "(I)V"⟩
abbrev cX0_kindOf : ByteArray := prog_2_method_8_code
def yX0_kindOf : MethodName := ⟨RX0, "kindOf", "(II)I"⟩
abbrev cX0_timeOf : ByteArray := prog_2_method_9_code
def yX0_timeOf : MethodName := ⟨RX0, "timeOf", "(II)I"⟩
abbrev cX0_placeOf : ByteArray := prog_2_method_10_code
def yX0_placeOf : MethodName := ⟨RX0, "placeOf", "(II)I"⟩
abbrev cX0_staying : ByteArray := prog_2_method_11_code
def yX0_staying : MethodName := ⟨RX0, "staying", "(I)I"⟩
abbrev cX0_causePart : ByteArray := prog_2_method_12_code
def yX0_causePart : MethodName := ⟨RX0, "causePart", "(II)I"⟩
def RX1 : String := "ForesightHub$History"
def TX1 : u_T := fun k => match k with
  | 0 => ("ForesightHub$History", "states", "[LForesightHub$State;", true)
  | 1 => ("ForesightHub$History", "kept", "I", false)
  | _ => ("ForesightHub$History", "next", "I", false)
def tyX1 : Nat → FieldType := fun k => match k with
  | 0 => .array (.object "ForesightHub$State")
  | 1 => .int
  | _ => .int
abbrev wsX10 : List Cond := u_ws RX1 TX1 3
theorem nmX1 : ∀ a, a < 3 → ∀ b, b < 3 → a ≠ b → (TX1 a).2.1 ≠ (TX1 b).2.1 := by decide +kernel
theorem tyX1_ok : ∀ k, k < 3 → parseFieldDescriptor (TX1 k).2.2.1 = some (tyX1 k) := by decide +kernel
abbrev cX1_init : ByteArray := prog_3_method_1_code
def yX1_init : MethodName := ⟨RX1, "<init>", "()V"⟩
abbrev cX1_clear : ByteArray := prog_3_method_2_code
def yX1_clear : MethodName := ⟨RX1, "clear", "()V"⟩
abbrev cX1_remember : ByteArray := prog_3_method_3_code
def yX1_remember : MethodName := ⟨RX1, "remember", "(LForesightHub$State;)V"⟩
abbrev cX1_takeBack : ByteArray := prog_3_method_4_code
def yX1_takeBack : MethodName := ⟨RX1, "takeBack", "(LForesightHub$State;)Z"⟩
def RX2 : String := "ForesightHub$Hub"
def TX2 : u_T := fun k => match k with
  | 0 => ("ForesightHub$Hub", "plan", "LForesightHub$Plan;", false)
  | _ => ("ForesightHub$Hub", "state", "LForesightHub$State;", true)
def tyX2 : Nat → FieldType := fun k => match k with
  | 0 => .object "ForesightHub$Plan"
  | _ => .object "ForesightHub$State"
abbrev wsX20 : List Cond := u_ws RX2 TX2 2
theorem nmX2 : ∀ a, a < 2 → ∀ b, b < 2 → a ≠ b → (TX2 a).2.1 ≠ (TX2 b).2.1 := by decide +kernel
theorem tyX2_ok : ∀ k, k < 2 → parseFieldDescriptor (TX2 k).2.2.1 = some (tyX2 k) := by decide +kernel
abbrev cX2_init : ByteArray := prog_4_method_1_code
def yX2_init : MethodName := ⟨RX2, "<init>", "()V"⟩
abbrev cX2_begin : ByteArray := prog_4_method_2_code
def yX2_begin : MethodName := ⟨RX2, "begin", "(LForesightHub$Plan;)V"⟩
abbrev cX2_isDevice : ByteArray := prog_4_method_3_code
def yX2_isDevice : MethodName := ⟨RX2, "isDevice", "(I)Z"⟩
abbrev cX2_isPluggedIn : ByteArray := prog_4_method_4_code
def yX2_isPluggedIn : MethodName := ⟨RX2, "isPluggedIn", "(I)Z"⟩
abbrev cX2_inAlarm : ByteArray := prog_4_method_5_code
def yX2_inAlarm : MethodName := ⟨RX2, "inAlarm", "(I)Z"⟩
abbrev cX2_canHold : ByteArray := prog_4_method_6_code
def yX2_canHold : MethodName := ⟨RX2, "canHold", "(I)Z"⟩
abbrev cX2_pluggedInAt : ByteArray := prog_4_method_7_code
def yX2_pluggedInAt : MethodName := ⟨RX2, "pluggedInAt", "(I)I"⟩
abbrev cX2_heldBits : ByteArray := prog_4_method_8_code
def yX2_heldBits : MethodName := ⟨RX2, "heldBits", "(I)I"⟩
abbrev cX2_reservedFor : ByteArray := prog_4_method_9_code
def yX2_reservedFor : MethodName := ⟨RX2, "reservedFor", "(I)I"⟩
abbrev cX2_unitsAtStake : ByteArray := prog_4_method_10_code
def yX2_unitsAtStake : MethodName := ⟨RX2, "unitsAtStake", "(I)I"⟩
abbrev cX2_clearingFrames : ByteArray := prog_4_method_11_code
def yX2_clearingFrames : MethodName := ⟨RX2, "clearingFrames", "(I)I"⟩
abbrev cX2_framesToPacketEnd : ByteArray := prog_4_method_12_code
def yX2_framesToPacketEnd : MethodName := ⟨RX2, "framesToPacketEnd", "(I)I"⟩
abbrev cX2_weakestDevice : ByteArray := prog_4_method_13_code
def yX2_weakestDevice : MethodName := ⟨RX2, "weakestDevice", "()I"⟩
abbrev cX2_scoreOf : ByteArray := prog_4_method_14_code
def yX2_scoreOf : MethodName := ⟨RX2, "scoreOf", "(II)I"⟩
abbrev cX2_matchingBits : ByteArray := prog_4_method_15_code
def yX2_matchingBits : MethodName := ⟨RX2, "matchingBits", "(II)I"⟩
abbrev cX2_matches : ByteArray := prog_4_method_16_code
def yX2_matches : MethodName := ⟨RX2, "matches", "(III)Z"⟩
abbrev cX2_isNextOf : ByteArray := prog_4_method_17_code
def yX2_isNextOf : MethodName := ⟨RX2, "isNextOf", "(III)Z"⟩
abbrev cX2_fearedKind : ByteArray := prog_4_method_18_code
def yX2_fearedKind : MethodName := ⟨RX2, "fearedKind", "(I)I"⟩
abbrev cX2_takeError : ByteArray := prog_4_method_19_code
def yX2_takeError : MethodName := ⟨RX2, "takeError", "(II)V"⟩
abbrev cX2_beginAlarm : ByteArray := prog_4_method_20_code
def yX2_beginAlarm : MethodName := ⟨RX2, "beginAlarm", "(I)V"⟩
abbrev cX2_endWrongAlarm : ByteArray := prog_4_method_21_code
def yX2_endWrongAlarm : MethodName := ⟨RX2, "endWrongAlarm", "(I)V"⟩
abbrev cX2_isWrongAlarm : ByteArray := prog_4_method_22_code
def yX2_isWrongAlarm : MethodName := ⟨RX2, "isWrongAlarm", "(I)Z"⟩
abbrev cX2_pullOut : ByteArray := prog_4_method_23_code
def yX2_pullOut : MethodName := ⟨RX2, "pullOut", "(I)I"⟩
abbrev cX2_dropStream : ByteArray := prog_4_method_24_code
def yX2_dropStream : MethodName := ⟨RX2, "dropStream", "(I)I"⟩
abbrev cX2_putIn : ByteArray := prog_4_method_25_code
def yX2_putIn : MethodName := ⟨RX2, "putIn", "(II)V"⟩
abbrev cX2_reserved : ByteArray := prog_4_method_26_code
def yX2_reserved : MethodName := ⟨RX2, "reserved", "()I"⟩
abbrev cX2_heirOfHome : ByteArray := prog_4_method_27_code
def yX2_heirOfHome : MethodName := ⟨RX2, "heirOfHome", "(I)I"⟩
abbrev cX2_wantedHolder : ByteArray := prog_4_method_28_code
def yX2_wantedHolder : MethodName := ⟨RX2, "wantedHolder", "(I)I"⟩
abbrev cX2_reasonNotToRun : ByteArray := prog_4_method_29_code
def yX2_reasonNotToRun : MethodName := ⟨RX2, "reasonNotToRun", "(I)I"⟩
abbrev cX2_settle : ByteArray := prog_4_method_30_code
def yX2_settle : MethodName := ⟨RX2, "settle", "()V"⟩
abbrev cX2_settleHeld : ByteArray := prog_4_method_31_code
def yX2_settleHeld : MethodName := ⟨RX2, "settleHeld", "(I)V"⟩
abbrev cX2_passFrame : ByteArray := prog_4_method_32_code
def yX2_passFrame : MethodName := ⟨RX2, "passFrame", "()V"⟩
abbrev cX2_sendOn : ByteArray := prog_4_method_33_code
def yX2_sendOn : MethodName := ⟨RX2, "sendOn", "(I)V"⟩
abbrev cX2_sendToPacketEnd : ByteArray := prog_4_method_34_code
def yX2_sendToPacketEnd : MethodName := ⟨RX2, "sendToPacketEnd", "(I)V"⟩
def RX3 : String := "ForesightHub$Log"
def TX3 : u_T := fun k => match k with
  | 0 => ("ForesightHub$Log", "kept", "I", false)
  | 1 => ("ForesightHub$Log", "next", "I", false)
  | 2 => ("ForesightHub$Log", "kinds", "[I", true)
  | 3 => ("ForesightHub$Log", "items", "[I", true)
  | 4 => ("ForesightHub$Log", "times", "[I", true)
  | _ => ("ForesightHub$Log", "totals", "[I", true)
def tyX3 : Nat → FieldType := fun k => match k with
  | 0 => .int
  | 1 => .int
  | 2 => .array .int
  | 3 => .array .int
  | 4 => .array .int
  | _ => .array .int
abbrev wsX30 : List Cond := u_ws RX3 TX3 6
theorem nmX3 : ∀ a, a < 6 → ∀ b, b < 6 → a ≠ b → (TX3 a).2.1 ≠ (TX3 b).2.1 := by decide +kernel
theorem tyX3_ok : ∀ k, k < 6 → parseFieldDescriptor (TX3 k).2.2.1 = some (tyX3 k) := by decide +kernel
abbrev cX3_init : ByteArray := prog_5_method_1_code
def yX3_init : MethodName := ⟨RX3, "<init>", "()V"⟩
abbrev cX3_clear : ByteArray := prog_5_method_2_code
def yX3_clear : MethodName := ⟨RX3, "clear", "()V"⟩
abbrev cX3_copyFrom : ByteArray := prog_5_method_3_code
def yX3_copyFrom : MethodName := ⟨RX3, "copyFrom", "(LForesightHub$Log;)V"⟩
abbrev cX3_add : ByteArray := prog_5_method_4_code
def yX3_add : MethodName := ⟨RX3, "add", "(III)V"⟩
abbrev cX3_partOf : ByteArray := prog_5_method_5_code
def yX3_partOf : MethodName := ⟨RX3, "partOf", "(II)I"⟩
def RX4 : String := "ForesightHub$Plan"
def TX4 : u_T := fun k => match k with
  | 0 => ("ForesightHub$Plan", "whole", "I", false)
  | 1 => ("ForesightHub$Plan", "ports", "I", false)
  | 2 => ("ForesightHub$Plan", "score", "I", false)
  | 3 => ("ForesightHub$Plan", "grace", "I", false)
  | 4 => ("ForesightHub$Plan", "patterns", "I", false)
  | 5 => ("ForesightHub$Plan", "devices", "I", false)
  | 6 => ("ForesightHub$Plan", "streams", "I", false)
  | 7 => ("ForesightHub$Plan", "weight", "[I", true)
  | 8 => ("ForesightHub$Plan", "within", "[I", true)
  | 9 => ("ForesightHub$Plan", "patternErrors", "[I", true)
  | 10 => ("ForesightHub$Plan", "patternKinds", "[I", true)
  | 11 => ("ForesightHub$Plan", "firstPort", "[I", true)
  | 12 => ("ForesightHub$Plan", "heir", "[I", true)
  | 13 => ("ForesightHub$Plan", "home", "[I", true)
  | 14 => ("ForesightHub$Plan", "rate", "[I", true)
  | _ => ("ForesightHub$Plan", "packet", "[I", true)
def tyX4 : Nat → FieldType := fun k => match k with
  | 0 => .int
  | 1 => .int
  | 2 => .int
  | 3 => .int
  | 4 => .int
  | 5 => .int
  | 6 => .int
  | 7 => .array .int
  | 8 => .array .int
  | 9 => .array .int
  | 10 => .array .int
  | 11 => .array .int
  | 12 => .array .int
  | 13 => .array .int
  | 14 => .array .int
  | _ => .array .int
abbrev wsX40 : List Cond := u_ws RX4 TX4 16
theorem nmX4 : ∀ a, a < 16 → ∀ b, b < 16 → a ≠ b → (TX4 a).2.1 ≠ (TX4 b).2.1 := by decide +kernel
theorem tyX4_ok : ∀ k, k < 16 → parseFieldDescriptor (TX4 k).2.2.1 = some (tyX4 k) := by decide +kernel
abbrev cX4_init : ByteArray := prog_6_method_1_code
def yX4_init : MethodName := ⟨RX4, "<init>", "()V"⟩
abbrev cX4_clear : ByteArray := prog_6_method_2_code
def yX4_clear : MethodName := ⟨RX4, "clear", "()V"⟩
def RX5 : String := "ForesightHub$Reader"
def TX5 : u_T := fun k => match k with
  | 0 => ("ForesightHub$Reader", "buffer", "[B", true)
  | 1 => ("ForesightHub$Reader", "filled", "I", false)
  | 2 => ("ForesightHub$Reader", "textEnd", "I", false)
  | 3 => ("ForesightHub$Reader", "position", "I", false)
  | 4 => ("ForesightHub$Reader", "token", "I", false)
  | 5 => ("ForesightHub$Reader", "tokenStart", "I", false)
  | 6 => ("ForesightHub$Reader", "value", "J", false)
  | 7 => ("ForesightHub$Reader", "faultOffset", "I", false)
  | 8 => ("ForesightHub$Reader", "faultKind", "I", false)
  | 9 => ("ForesightHub$Reader", "plan", "LForesightHub$Plan;", false)
  | 10 => ("ForesightHub$Reader", "alarmTold", "Z", false)
  | 11 => ("ForesightHub$Reader", "patternNames", "[J", true)
  | 12 => ("ForesightHub$Reader", "deviceNames", "[J", true)
  | _ => ("ForesightHub$Reader", "streamNames", "[J", true)
def tyX5 : Nat → FieldType := fun k => match k with
  | 0 => .array .byte
  | 1 => .int
  | 2 => .int
  | 3 => .int
  | 4 => .int
  | 5 => .int
  | 6 => .long
  | 7 => .int
  | 8 => .int
  | 9 => .object "ForesightHub$Plan"
  | 10 => .boolean
  | 11 => .array .long
  | 12 => .array .long
  | _ => .array .long
abbrev wsX50 : List Cond := u_ws RX5 TX5 14
theorem nmX5 : ∀ a, a < 14 → ∀ b, b < 14 → a ≠ b → (TX5 a).2.1 ≠ (TX5 b).2.1 := by decide +kernel
theorem tyX5_ok : ∀ k, k < 14 → parseFieldDescriptor (TX5 k).2.2.1 = some (tyX5 k) := by decide +kernel
abbrev cX5_init : ByteArray := prog_7_method_1_code
def yX5_init : MethodName := ⟨RX5, "<init>", "()V"⟩
abbrev cX5_hasRoomFor : ByteArray := prog_7_method_2_code
def yX5_hasRoomFor : MethodName := ⟨RX5, "hasRoomFor", "(I)Z"⟩
abbrev cX5_addBytesOf : ByteArray := prog_7_method_3_code
def yX5_addBytesOf : MethodName := ⟨RX5, "addBytesOf", "(I)V"⟩
abbrev cX5_exchangePlan : ByteArray := prog_7_method_4_code
def yX5_exchangePlan : MethodName := ⟨RX5, "exchangePlan", "(LForesightHub$Plan;)LForesightHub$Plan;"⟩
abbrev cX5_faultAnswer : ByteArray := prog_7_method_5_code
def yX5_faultAnswer : MethodName := ⟨RX5, "faultAnswer", "()I"⟩
abbrev cX5_read : ByteArray := prog_7_method_6_code
def yX5_read : MethodName := ⟨RX5, "read", "(I)Z"⟩
abbrev cX5_readHeader : ByteArray := prog_7_method_7_code
def yX5_readHeader : MethodName := ⟨RX5, "readHeader", "()Z"⟩
abbrev cX5_readStatement : ByteArray := prog_7_method_8_code
def yX5_readStatement : MethodName := ⟨RX5, "readStatement", "()Z"⟩
abbrev cX5_readPattern : ByteArray := prog_7_method_9_code
def yX5_readPattern : MethodName := ⟨RX5, "readPattern", "()Z"⟩
abbrev cX5_readPatternErrors : ByteArray := prog_7_method_10_code
def yX5_readPatternErrors : MethodName := ⟨RX5, "readPatternErrors", "(I)Z"⟩
abbrev cX5_readDevice : ByteArray := prog_7_method_11_code
def yX5_readDevice : MethodName := ⟨RX5, "readDevice", "()Z"⟩
abbrev cX5_readStream : ByteArray := prog_7_method_12_code
def yX5_readStream : MethodName := ⟨RX5, "readStream", "()Z"⟩
abbrev cX5_readAlarm : ByteArray := prog_7_method_13_code
def yX5_readAlarm : MethodName := ⟨RX5, "readAlarm", "()Z"⟩
abbrev cX5_takeSemicolon : ByteArray := prog_7_method_14_code
def yX5_takeSemicolon : MethodName := ⟨RX5, "takeSemicolon", "()Z"⟩
abbrev cX5_takeNewName : ByteArray := prog_7_method_15_code
def yX5_takeNewName : MethodName := ⟨RX5, "takeNewName", "([JI)Z"⟩
abbrev cX5_isKnownDevice : ByteArray := prog_7_method_16_code
def yX5_isKnownDevice : MethodName := ⟨RX5, "isKnownDevice", "()Z"⟩
abbrev cX5_isNumberWithin : ByteArray := prog_7_method_17_code
def yX5_isNumberWithin : MethodName := ⟨RX5, "isNumberWithin", "(II)Z"⟩
abbrev cX5_isTakenPort : ByteArray := prog_7_method_18_code
def yX5_isTakenPort : MethodName := ⟨RX5, "isTakenPort", "(I)Z"⟩
abbrev cX5_indexOfWord : ByteArray := prog_7_method_19_code
def yX5_indexOfWord : MethodName := ⟨RX5, "indexOfWord", "([JI)I"⟩
abbrev cX5_kindOfWord : ByteArray := prog_7_method_20_code
def yX5_kindOfWord : MethodName := ⟨RX5, "kindOfWord", "()I"⟩
abbrev cX5_isWord : ByteArray := prog_7_method_21_code
def yX5_isWord : MethodName := ⟨RX5, "isWord", "(Ljava/lang/String;)Z"⟩
abbrev cX5_fault : ByteArray := prog_7_method_22_code
def yX5_fault : MethodName := ⟨RX5, "fault", "(I)Z"⟩
abbrev cX5_advance : ByteArray := prog_7_method_23_code
def yX5_advance : MethodName := ⟨RX5, "advance", "()V"⟩
abbrev cX5_kindOfSign : ByteArray := prog_7_method_24_code
def yX5_kindOfSign : MethodName := ⟨RX5, "kindOfSign", "(I)I"⟩
def RX6 : String := "ForesightHub$State"
def TX6 : u_T := fun k => match k with
  | 0 => ("ForesightHub$State", "time", "I", false)
  | 1 => ("ForesightHub$State", "alarmScore", "I", false)
  | 2 => ("ForesightHub$State", "port", "[I", true)
  | 3 => ("ForesightHub$State", "alarmSince", "[I", true)
  | 4 => ("ForesightHub$State", "holder", "[I", true)
  | 5 => ("ForesightHub$State", "mode", "[I", true)
  | 6 => ("ForesightHub$State", "done", "[I", true)
  | 7 => ("ForesightHub$State", "sent", "[J", true)
  | 8 => ("ForesightHub$State", "errors", "LForesightHub$ErrorBook;", true)
  | _ => ("ForesightHub$State", "log", "LForesightHub$Log;", true)
def tyX6 : Nat → FieldType := fun k => match k with
  | 0 => .int
  | 1 => .int
  | 2 => .array .int
  | 3 => .array .int
  | 4 => .array .int
  | 5 => .array .int
  | 6 => .array .int
  | 7 => .array .long
  | 8 => .object "ForesightHub$ErrorBook"
  | _ => .object "ForesightHub$Log"
abbrev wsX60 : List Cond := u_ws RX6 TX6 10
theorem nmX6 : ∀ a, a < 10 → ∀ b, b < 10 → a ≠ b → (TX6 a).2.1 ≠ (TX6 b).2.1 := by decide +kernel
theorem tyX6_ok : ∀ k, k < 10 → parseFieldDescriptor (TX6 k).2.2.1 = some (tyX6 k) := by decide +kernel
abbrev cX6_init : ByteArray := prog_8_method_1_code
def yX6_init : MethodName := ⟨RX6, "<init>", "()V"⟩
abbrev cX6_begin : ByteArray := prog_8_method_2_code
def yX6_begin : MethodName := ⟨RX6, "begin", "(LForesightHub$Plan;)V"⟩
abbrev cX6_copyFrom : ByteArray := prog_8_method_3_code
def yX6_copyFrom : MethodName := ⟨RX6, "copyFrom", "(LForesightHub$State;)V"⟩
def RX7 : String := "ForesightHub"
def TX7 : u_T := fun k => match k with
  | 0 => ("ForesightHub", "reader", "LForesightHub$Reader;", true)
  | 1 => ("ForesightHub", "hub", "LForesightHub$Hub;", true)
  | 2 => ("ForesightHub", "history", "LForesightHub$History;", true)
  | 3 => ("ForesightHub", "snapshots", "[LForesightHub$State;", true)
  | _ => ("ForesightHub", "snapshotTaken", "[Z", true)
def tyX7 : Nat → FieldType := fun k => match k with
  | 0 => .object "ForesightHub$Reader"
  | 1 => .object "ForesightHub$Hub"
  | 2 => .object "ForesightHub$History"
  | 3 => .array (.object "ForesightHub$State")
  | _ => .array .boolean
abbrev wsX70 : List Cond := u_ws RX7 TX7 5
theorem nmX7 : ∀ a, a < 5 → ∀ b, b < 5 → a ≠ b → (TX7 a).2.1 ≠ (TX7 b).2.1 := by decide +kernel
theorem tyX7_ok : ∀ k, k < 5 → parseFieldDescriptor (TX7 k).2.2.1 = some (tyX7 k) := by decide +kernel
abbrev cX7_init : ByteArray := prog_1_method_1_code
def yX7_init : MethodName := ⟨RX7, "<init>", "()V"⟩
abbrev cX7_append : ByteArray := prog_1_method_2_code
def yX7_append : MethodName := ⟨RX7, "append", "(IIIII)I"⟩
abbrev cX7_parse : ByteArray := prog_1_method_3_code
def yX7_parse : MethodName := ⟨RX7, "parse", "(I)I"⟩
abbrev cX7_size : ByteArray := prog_1_method_4_code
def yX7_size : MethodName := ⟨RX7, "size", "(I)I"⟩
abbrev cX7_deviceAt : ByteArray := prog_1_method_5_code
def yX7_deviceAt : MethodName := ⟨RX7, "deviceAt", "(I)I"⟩
abbrev cX7_device : ByteArray := prog_1_method_6_code
def yX7_device : MethodName := ⟨RX7, "device", "(II)I"⟩
abbrev cX7_stream : ByteArray := prog_1_method_7_code
def yX7_stream : MethodName := ⟨RX7, "stream", "(II)I"⟩
abbrev cX7_packets : ByteArray := prog_1_method_8_code
def yX7_packets : MethodName := ⟨RX7, "packets", "(I)J"⟩
abbrev cX7_error : ByteArray := prog_1_method_9_code
def yX7_error : MethodName := ⟨RX7, "error", "(III)I"⟩
abbrev cX7_cause : ByteArray := prog_1_method_10_code
def yX7_cause : MethodName := ⟨RX7, "cause", "(II)I"⟩
abbrev cX7_scoreWith : ByteArray := prog_1_method_11_code
def yX7_scoreWith : MethodName := ⟨RX7, "scoreWith", "(II)I"⟩
abbrev cX7_feared : ByteArray := prog_1_method_12_code
def yX7_feared : MethodName := ⟨RX7, "feared", "(I)I"⟩
abbrev cX7_framesToClear : ByteArray := prog_1_method_13_code
def yX7_framesToClear : MethodName := ⟨RX7, "framesToClear", "(I)I"⟩
abbrev cX7_atStake : ByteArray := prog_1_method_14_code
def yX7_atStake : MethodName := ⟨RX7, "atStake", "(I)I"⟩
abbrev cX7_weakest : ByteArray := prog_1_method_15_code
def yX7_weakest : MethodName := ⟨RX7, "weakest", "()I"⟩
abbrev cX7_whyNotRunning : ByteArray := prog_1_method_16_code
def yX7_whyNotRunning : MethodName := ⟨RX7, "whyNotRunning", "(I)I"⟩
abbrev cX7_event : ByteArray := prog_1_method_17_code
def yX7_event : MethodName := ⟨RX7, "event", "(II)I"⟩
abbrev cX7_account : ByteArray := prog_1_method_18_code
def yX7_account : MethodName := ⟨RX7, "account", "(I)I"⟩
abbrev cX7_rightShare : ByteArray := prog_1_method_19_code
def yX7_rightShare : MethodName := ⟨RX7, "rightShare", "()D"⟩
abbrev cX7_frames : ByteArray := prog_1_method_20_code
def yX7_frames : MethodName := ⟨RX7, "frames", "(I)I"⟩
abbrev cX7_fail : ByteArray := prog_1_method_21_code
def yX7_fail : MethodName := ⟨RX7, "fail", "(II)I"⟩
abbrev cX7_warn : ByteArray := prog_1_method_22_code
def yX7_warn : MethodName := ⟨RX7, "warn", "(I)I"⟩
abbrev cX7_callOff : ByteArray := prog_1_method_23_code
def yX7_callOff : MethodName := ⟨RX7, "callOff", "(I)I"⟩
abbrev cX7_unplug : ByteArray := prog_1_method_24_code
def yX7_unplug : MethodName := ⟨RX7, "unplug", "(I)I"⟩
abbrev cX7_plug : ByteArray := prog_1_method_25_code
def yX7_plug : MethodName := ⟨RX7, "plug", "(II)I"⟩
abbrev cX7_setScore : ByteArray := prog_1_method_26_code
def yX7_setScore : MethodName := ⟨RX7, "setScore", "(I)I"⟩
abbrev cX7_undo : ByteArray := prog_1_method_27_code
def yX7_undo : MethodName := ⟨RX7, "undo", "()I"⟩
abbrev cX7_saveSnapshot : ByteArray := prog_1_method_28_code
def yX7_saveSnapshot : MethodName := ⟨RX7, "saveSnapshot", "(I)Z"⟩
abbrev cX7_restoreSnapshot : ByteArray := prog_1_method_29_code
def yX7_restoreSnapshot : MethodName := ⟨RX7, "restoreSnapshot", "(I)Z"⟩
abbrev cX7_requireDevice : ByteArray := prog_1_method_30_code
def yX7_requireDevice : MethodName := ⟨RX7, "requireDevice", "(I)V"⟩
abbrev cX7_requireStream : ByteArray := prog_1_method_31_code
def yX7_requireStream : MethodName := ⟨RX7, "requireStream", "(I)V"⟩
abbrev cX7_requirePort : ByteArray := prog_1_method_32_code
def yX7_requirePort : MethodName := ⟨RX7, "requirePort", "(I)V"⟩
abbrev cX7_requireKind : ByteArray := prog_1_method_33_code
def yX7_requireKind : MethodName := ⟨RX7, "requireKind", "(I)V"⟩
abbrev cX7_requirePluggedIn : ByteArray := prog_1_method_34_code
def yX7_requirePluggedIn : MethodName := ⟨RX7, "requirePluggedIn", "(I)V"⟩
def RX8 : String := "ForesightHubModel"
def TX8 : u_T := fun k => match k with
  | 0 => ("ForesightHubModel", "thrown", "I", false)
  | 1 => ("ForesightHubModel", "buffer", "[B", true)
  | 2 => ("ForesightHubModel", "length", "I", false)
  | 3 => ("ForesightHubModel", "textLength", "I", false)
  | 4 => ("ForesightHubModel", "tokenStart", "I", false)
  | 5 => ("ForesightHubModel", "tokenEnd", "I", false)
  | 6 => ("ForesightHubModel", "token", "I", false)
  | 7 => ("ForesightHubModel", "number", "I", false)
  | 8 => ("ForesightHubModel", "fault", "I", false)
  | 9 => ("ForesightHubModel", "faultOffset", "I", false)
  | 10 => ("ForesightHubModel", "draft", "[I", true)
  | 11 => ("ForesightHubModel", "told", "[I", true)
  | 12 => ("ForesightHubModel", "names", "[B", true)
  | 13 => ("ForesightHubModel", "hasAlarm", "Z", false)
  | 14 => ("ForesightHubModel", "s", "[I", true)
  | 15 => ("ForesightHubModel", "sent", "[J", true)
  | 16 => ("ForesightHubModel", "history", "[I", true)
  | 17 => ("ForesightHubModel", "historySent", "[J", true)
  | 18 => ("ForesightHubModel", "depth", "I", false)
  | 19 => ("ForesightHubModel", "slots", "[I", true)
  | 20 => ("ForesightHubModel", "slotSent", "[J", true)
  | 21 => ("ForesightHubModel", "isSaved", "[Z", true)
  | _ => ("ForesightHubModel", "aside", "[I", true)
def tyX8 : Nat → FieldType := fun k => match k with
  | 0 => .int
  | 1 => .array .byte
  | 2 => .int
  | 3 => .int
  | 4 => .int
  | 5 => .int
  | 6 => .int
  | 7 => .int
  | 8 => .int
  | 9 => .int
  | 10 => .array .int
  | 11 => .array .int
  | 12 => .array .byte
  | 13 => .boolean
  | 14 => .array .int
  | 15 => .array .long
  | 16 => .array .int
  | 17 => .array .long
  | 18 => .int
  | 19 => .array .int
  | 20 => .array .long
  | 21 => .array .boolean
  | _ => .array .int
abbrev wsX80 : List Cond := u_ws RX8 TX8 23
theorem nmX8 : ∀ a, a < 23 → ∀ b, b < 23 → a ≠ b → (TX8 a).2.1 ≠ (TX8 b).2.1 := by decide +kernel
theorem tyX8_ok : ∀ k, k < 23 → parseFieldDescriptor (TX8 k).2.2.1 = some (tyX8 k) := by decide +kernel
abbrev cX8_init : ByteArray := prog_10_method_1_code
def yX8_init : MethodName := ⟨RX8, "<init>", "()V"⟩
abbrev cX8_thrown : ByteArray := prog_10_method_2_code
def yX8_thrown : MethodName := ⟨RX8, "thrown", "()I"⟩
abbrev cX8_within : ByteArray := prog_10_method_3_code
def yX8_within : MethodName := ⟨RX8, "within", "(III)Z"⟩
abbrev cX8_fail0 : ByteArray := prog_10_method_4_code
def yX8_fail0 : MethodName := ⟨RX8, "fail0", "(I)I"⟩
abbrev cX8_appendInt : ByteArray := prog_10_method_5_code
def yX8_appendInt : MethodName := ⟨RX8, "appendInt", "(I)V"⟩
abbrev cX8_append : ByteArray := prog_10_method_6_code
def yX8_append : MethodName := ⟨RX8, "append", "(IIIII)I"⟩
abbrev cX8_byteAt : ByteArray := prog_10_method_7_code
def yX8_byteAt : MethodName := ⟨RX8, "byteAt", "(I)I"⟩
abbrev cX8_nextToken : ByteArray := prog_10_method_8_code
def yX8_nextToken : MethodName := ⟨RX8, "nextToken", "()V"⟩
abbrev cX8_must : ByteArray := prog_10_method_9_code
def yX8_must : MethodName := ⟨RX8, "must", "(ZI)Z"⟩
abbrev cX8_isWord : ByteArray := prog_10_method_10_code
def yX8_isWord : MethodName := ⟨RX8, "isWord", "(Ljava/lang/String;)Z"⟩
abbrev cX8_goOn : ByteArray := prog_10_method_11_code
def yX8_goOn : MethodName := ⟨RX8, "goOn", "()V"⟩
abbrev cX8_read : ByteArray := prog_10_method_12_code
def yX8_read : MethodName := ⟨RX8, "read", "(II)I"⟩
abbrev cX8_setDefaults : ByteArray := prog_10_method_13_code
def yX8_setDefaults : MethodName := ⟨RX8, "setDefaults", "()V"⟩
abbrev cX8_nameAt : ByteArray := prog_10_method_14_code
def yX8_nameAt : MethodName := ⟨RX8, "nameAt", "(II)I"⟩
abbrev cX8_draftFind : ByteArray := prog_10_method_15_code
def yX8_draftFind : MethodName := ⟨RX8, "draftFind", "(I)I"⟩
abbrev cX8_deviceHere : ByteArray := prog_10_method_16_code
def yX8_deviceHere : MethodName := ⟨RX8, "deviceHere", "()I"⟩
abbrev cX8_begin : ByteArray := prog_10_method_17_code
def yX8_begin : MethodName := ⟨RX8, "begin", "(II)Z"⟩
abbrev cX8_kindHere : ByteArray := prog_10_method_18_code
def yX8_kindHere : MethodName := ⟨RX8, "kindHere", "()I"⟩
abbrev cX8_patternLine : ByteArray := prog_10_method_19_code
def yX8_patternLine : MethodName := ⟨RX8, "patternLine", "()V"⟩
abbrev cX8_isTaken : ByteArray := prog_10_method_20_code
def yX8_isTaken : MethodName := ⟨RX8, "isTaken", "(I)Z"⟩
abbrev cX8_deviceLine : ByteArray := prog_10_method_21_code
def yX8_deviceLine : MethodName := ⟨RX8, "deviceLine", "()V"⟩
abbrev cX8_streamLine : ByteArray := prog_10_method_22_code
def yX8_streamLine : MethodName := ⟨RX8, "streamLine", "()V"⟩
abbrev cX8_alarmLine : ByteArray := prog_10_method_23_code
def yX8_alarmLine : MethodName := ⟨RX8, "alarmLine", "()V"⟩
abbrev cX8_statement : ByteArray := prog_10_method_24_code
def yX8_statement : MethodName := ⟨RX8, "statement", "()V"⟩
abbrev cX8_parse : ByteArray := prog_10_method_25_code
def yX8_parse : MethodName := ⟨RX8, "parse", "(I)I"⟩
abbrev cX8_takeDraft : ByteArray := prog_10_method_26_code
def yX8_takeDraft : MethodName := ⟨RX8, "takeDraft", "()V"⟩
abbrev cX8_copy : ByteArray := prog_10_method_27_code
def yX8_copy : MethodName := ⟨RX8, "copy", "([I[JI[I[JI)V"⟩
abbrev cX8_keep : ByteArray := prog_10_method_28_code
def yX8_keep : MethodName := ⟨RX8, "keep", "()V"⟩
abbrev cX8_devices : ByteArray := prog_10_method_29_code
def yX8_devices : MethodName := ⟨RX8, "devices", "()I"⟩
abbrev cX8_streams : ByteArray := prog_10_method_30_code
def yX8_streams : MethodName := ⟨RX8, "streams", "()I"⟩
abbrev cX8_isDevice : ByteArray := prog_10_method_31_code
def yX8_isDevice : MethodName := ⟨RX8, "isDevice", "(I)Z"⟩
abbrev cX8_isStream : ByteArray := prog_10_method_32_code
def yX8_isStream : MethodName := ⟨RX8, "isStream", "(I)Z"⟩
abbrev cX8_at : ByteArray := prog_10_method_33_code
def yX8_at : MethodName := ⟨RX8, "at", "(I)I"⟩
abbrev cX8_in : ByteArray := prog_10_method_34_code
def yX8_in : MethodName := ⟨RX8, "in", "(I)I"⟩
abbrev cX8_isPlugged : ByteArray := prog_10_method_35_code
def yX8_isPlugged : MethodName := ⟨RX8, "isPlugged", "(I)Z"⟩
abbrev cX8_isAlarmed : ByteArray := prog_10_method_36_code
def yX8_isAlarmed : MethodName := ⟨RX8, "isAlarmed", "(I)Z"⟩
abbrev cX8_isGood : ByteArray := prog_10_method_37_code
def yX8_isGood : MethodName := ⟨RX8, "isGood", "(I)Z"⟩
abbrev cX8_homeOf : ByteArray := prog_10_method_38_code
def yX8_homeOf : MethodName := ⟨RX8, "homeOf", "(I)I"⟩
abbrev cX8_rateOf : ByteArray := prog_10_method_39_code
def yX8_rateOf : MethodName := ⟨RX8, "rateOf", "(I)I"⟩
abbrev cX8_packetOf : ByteArray := prog_10_method_40_code
def yX8_packetOf : MethodName := ⟨RX8, "packetOf", "(I)I"⟩
abbrev cX8_wanted : ByteArray := prog_10_method_41_code
def yX8_wanted : MethodName := ⟨RX8, "wanted", "(I)I"⟩
abbrev cX8_reserved : ByteArray := prog_10_method_42_code
def yX8_reserved : MethodName := ⟨RX8, "reserved", "()I"⟩
abbrev cX8_happens : ByteArray := prog_10_method_43_code
def yX8_happens : MethodName := ⟨RX8, "happens", "(II)V"⟩
abbrev cX8_becomes : ByteArray := prog_10_method_44_code
def yX8_becomes : MethodName := ⟨RX8, "becomes", "(III)V"⟩
abbrev cX8_settles : ByteArray := prog_10_method_45_code
def yX8_settles : MethodName := ⟨RX8, "settles", "()V"⟩
abbrev cX8_settlesHeld : ByteArray := prog_10_method_46_code
def yX8_settlesHeld : MethodName := ⟨RX8, "settlesHeld", "(I)V"⟩
abbrev cX8_matches : ByteArray := prog_10_method_47_code
def yX8_matches : MethodName := ⟨RX8, "matches", "(II)Z"⟩
abbrev cX8_matching : ByteArray := prog_10_method_48_code
def yX8_matching : MethodName := ⟨RX8, "matching", "(I)I"⟩
abbrev cX8_scoreOf : ByteArray := prog_10_method_49_code
def yX8_scoreOf : MethodName := ⟨RX8, "scoreOf", "(I)I"⟩
abbrev cX8_keepsError : ByteArray := prog_10_method_50_code
def yX8_keepsError : MethodName := ⟨RX8, "keepsError", "(II)V"⟩
abbrev cX8_scoreThen : ByteArray := prog_10_method_51_code
def yX8_scoreThen : MethodName := ⟨RX8, "scoreThen", "(II)I"⟩
abbrev cX8_size : ByteArray := prog_10_method_52_code
def yX8_size : MethodName := ⟨RX8, "size", "(I)I"⟩
abbrev cX8_atPort : ByteArray := prog_10_method_53_code
def yX8_atPort : MethodName := ⟨RX8, "atPort", "(I)I"⟩
abbrev cX8_deviceAt : ByteArray := prog_10_method_54_code
def yX8_deviceAt : MethodName := ⟨RX8, "deviceAt", "(I)I"⟩
abbrev cX8_isHeldBy : ByteArray := prog_10_method_55_code
def yX8_isHeldBy : MethodName := ⟨RX8, "isHeldBy", "(II)Z"⟩
abbrev cX8_holding : ByteArray := prog_10_method_56_code
def yX8_holding : MethodName := ⟨RX8, "holding", "(I)I"⟩
abbrev cX8_holdMany : ByteArray := prog_10_method_57_code
def yX8_holdMany : MethodName := ⟨RX8, "holdMany", "(I)I"⟩
abbrev cX8_holdRate : ByteArray := prog_10_method_58_code
def yX8_holdRate : MethodName := ⟨RX8, "holdRate", "(I)I"⟩
abbrev cX8_device : ByteArray := prog_10_method_59_code
def yX8_device : MethodName := ⟨RX8, "device", "(II)I"⟩
abbrev cX8_stream : ByteArray := prog_10_method_60_code
def yX8_stream : MethodName := ⟨RX8, "stream", "(II)I"⟩
abbrev cX8_packets : ByteArray := prog_10_method_61_code
def yX8_packets : MethodName := ⟨RX8, "packets", "(I)J"⟩
abbrev cX8_error : ByteArray := prog_10_method_62_code
def yX8_error : MethodName := ⟨RX8, "error", "(III)I"⟩
abbrev cX8_cause : ByteArray := prog_10_method_63_code
def yX8_cause : MethodName := ⟨RX8, "cause", "(II)I"⟩
abbrev cX8_counts : ByteArray := prog_10_method_64_code
def yX8_counts : MethodName := ⟨RX8, "counts", "(II)V"⟩
abbrev cX8_scoreWith : ByteArray := prog_10_method_65_code
def yX8_scoreWith : MethodName := ⟨RX8, "scoreWith", "(II)I"⟩
abbrev cX8_feared : ByteArray := prog_10_method_66_code
def yX8_feared : MethodName := ⟨RX8, "feared", "(I)I"⟩
abbrev cX8_clearing : ByteArray := prog_10_method_67_code
def yX8_clearing : MethodName := ⟨RX8, "clearing", "(I)I"⟩
abbrev cX8_framesToClear : ByteArray := prog_10_method_68_code
def yX8_framesToClear : MethodName := ⟨RX8, "framesToClear", "(I)I"⟩
abbrev cX8_stake : ByteArray := prog_10_method_69_code
def yX8_stake : MethodName := ⟨RX8, "stake", "(I)I"⟩
abbrev cX8_atStake : ByteArray := prog_10_method_70_code
def yX8_atStake : MethodName := ⟨RX8, "atStake", "(I)I"⟩
abbrev cX8_weakest : ByteArray := prog_10_method_71_code
def yX8_weakest : MethodName := ⟨RX8, "weakest", "()I"⟩
abbrev cX8_whyNotRunning : ByteArray := prog_10_method_72_code
def yX8_whyNotRunning : MethodName := ⟨RX8, "whyNotRunning", "(I)I"⟩
abbrev cX8_event : ByteArray := prog_10_method_73_code
def yX8_event : MethodName := ⟨RX8, "event", "(II)I"⟩
abbrev cX8_account : ByteArray := prog_10_method_74_code
def yX8_account : MethodName := ⟨RX8, "account", "(I)I"⟩
abbrev cX8_rightShare : ByteArray := prog_10_method_75_code
def yX8_rightShare : MethodName := ⟨RX8, "rightShare", "()D"⟩
abbrev cX8_flows : ByteArray := prog_10_method_76_code
def yX8_flows : MethodName := ⟨RX8, "flows", "(I)V"⟩
abbrev cX8_calms : ByteArray := prog_10_method_77_code
def yX8_calms : MethodName := ⟨RX8, "calms", "(I)V"⟩
abbrev cX8_isOver : ByteArray := prog_10_method_78_code
def yX8_isOver : MethodName := ⟨RX8, "isOver", "(I)Z"⟩
abbrev cX8_frame : ByteArray := prog_10_method_79_code
def yX8_frame : MethodName := ⟨RX8, "frame", "()V"⟩
abbrev cX8_frames : ByteArray := prog_10_method_80_code
def yX8_frames : MethodName := ⟨RX8, "frames", "(I)I"⟩
abbrev cX8_alarms : ByteArray := prog_10_method_81_code
def yX8_alarms : MethodName := ⟨RX8, "alarms", "(I)V"⟩
abbrev cX8_fail : ByteArray := prog_10_method_82_code
def yX8_fail : MethodName := ⟨RX8, "fail", "(II)I"⟩
abbrev cX8_warn : ByteArray := prog_10_method_83_code
def yX8_warn : MethodName := ⟨RX8, "warn", "(I)I"⟩
abbrev cX8_callOff : ByteArray := prog_10_method_84_code
def yX8_callOff : MethodName := ⟨RX8, "callOff", "(I)I"⟩
abbrev cX8_unplug : ByteArray := prog_10_method_85_code
def yX8_unplug : MethodName := ⟨RX8, "unplug", "(I)I"⟩
abbrev cX8_plug : ByteArray := prog_10_method_86_code
def yX8_plug : MethodName := ⟨RX8, "plug", "(II)I"⟩
abbrev cX8_setScore : ByteArray := prog_10_method_87_code
def yX8_setScore : MethodName := ⟨RX8, "setScore", "(I)I"⟩
abbrev cX8_undo : ByteArray := prog_10_method_88_code
def yX8_undo : MethodName := ⟨RX8, "undo", "()I"⟩
abbrev cX8_saveSnapshot : ByteArray := prog_10_method_89_code
def yX8_saveSnapshot : MethodName := ⟨RX8, "saveSnapshot", "(I)Z"⟩
abbrev cX8_restoreSnapshot : ByteArray := prog_10_method_90_code
def yX8_restoreSnapshot : MethodName := ⟨RX8, "restoreSnapshot", "(I)Z"⟩
def RJ6 : String := "java/lang/Integer"
def TJ6 : u_T := fun k => match k with
  | _ => ("", "", "", false)
def tyJ6 : Nat → FieldType := fun k => match k with
  | _ => .int
abbrev wsJ60 : List Cond := u_ws RJ6 TJ6 0
theorem nmJ6 : ∀ a, a < 0 → ∀ b, b < 0 → a ≠ b → (TJ6 a).2.1 ≠ (TJ6 b).2.1 := by decide +kernel
theorem tyJ6_ok : ∀ k, k < 0 → parseFieldDescriptor (TJ6 k).2.2.1 = some (tyJ6 k) := by decide +kernel
abbrev cJ6_bitCount_0f7a4 : ByteArray := prog_15_method_49_code
def yJ6_bitCount_0f7a4 : MethodName := ⟨RJ6, "bitCount", "(I)I"⟩
def RJ9 : String := "java/lang/Math"
def TJ9 : u_T := fun k => match k with
  | _ => ("", "", "", false)
def tyJ9 : Nat → FieldType := fun k => match k with
  | _ => .int
abbrev wsJ90 : List Cond := u_ws RJ9 TJ9 0
theorem nmJ9 : ∀ a, a < 0 → ∀ b, b < 0 → a ≠ b → (TJ9 a).2.1 ≠ (TJ9 b).2.1 := by decide +kernel
theorem tyJ9_ok : ∀ k, k < 0 → parseFieldDescriptor (TJ9 k).2.2.1 = some (tyJ9 k) := by decide +kernel
abbrev cJ9_floorMod_7cf53 : ByteArray := prog_16_method_50_code
def yJ9_floorMod_7cf53 : MethodName := ⟨RJ9, "floorMod", "(II)I"⟩
abbrev cJ9_max_7cf53 : ByteArray := prog_16_method_65_code
def yJ9_max_7cf53 : MethodName := ⟨RJ9, "max", "(II)I"⟩
abbrev cJ9_min_7cf53 : ByteArray := prog_16_method_69_code
def yJ9_min_7cf53 : MethodName := ⟨RJ9, "min", "(II)I"⟩
def RJ0 : String := "java/lang/String"
def TJ0 : u_T := fun k => match k with
  | _ => ("", "", "", false)
def tyJ0 : Nat → FieldType := fun k => match k with
  | _ => .int
abbrev wsJ00 : List Cond := u_ws RJ0 TJ0 0
theorem nmJ0 : ∀ a, a < 0 → ∀ b, b < 0 → a ≠ b → (TJ0 a).2.1 ≠ (TJ0 b).2.1 := by decide +kernel
theorem tyJ0_ok : ∀ k, k < 0 → parseFieldDescriptor (TJ0 k).2.2.1 = some (tyJ0 k) := by decide +kernel
abbrev cJ0_length_8abf5 : ByteArray := prog_18_method_54_code
def yJ0_length_8abf5 : MethodName := ⟨RJ0, "length", "()I"⟩
abbrev cJ0_charAt_5068e : ByteArray := prog_18_method_56_code
def yJ0_charAt_5068e : MethodName := ⟨RJ0, "charAt", "(I)C"⟩
abbrev cJ0_coder_7d493 : ByteArray := prog_18_method_152_code
def yJ0_coder_7d493 : MethodName := ⟨RJ0, "coder", "()B"⟩
abbrev cJ0_isLatin1_aae02 : ByteArray := prog_18_method_154_code
def yJ0_isLatin1_aae02 : MethodName := ⟨RJ0, "isLatin1", "()Z"⟩
abbrev cJ0_checkIndex_df160 : ByteArray := prog_18_method_155_code
def yJ0_checkIndex_df160 : MethodName := ⟨RJ0, "checkIndex", "(II)V"⟩
def RJ1 : String := "java/lang/StringLatin1"
def TJ1 : u_T := fun k => match k with
  | _ => ("", "", "", false)
def tyJ1 : Nat → FieldType := fun k => match k with
  | _ => .int
abbrev wsJ10 : List Cond := u_ws RJ1 TJ1 0
theorem nmJ1 : ∀ a, a < 0 → ∀ b, b < 0 → a ≠ b → (TJ1 a).2.1 ≠ (TJ1 b).2.1 := by decide +kernel
theorem tyJ1_ok : ∀ k, k < 0 → parseFieldDescriptor (TJ1 k).2.2.1 = some (tyJ1 k) := by decide +kernel
abbrev cJ1_charAt_3b067 : ByteArray := prog_19_method_2_code
def yJ1_charAt_3b067 : MethodName := ⟨RJ1, "charAt", "([BI)C"⟩
def RJ2 : String := "java/lang/StringUTF16"
def TJ2 : u_T := fun k => match k with
  | _ => ("", "", "", false)
def tyJ2 : Nat → FieldType := fun k => match k with
  | _ => .int
abbrev wsJ20 : List Cond := u_ws RJ2 TJ2 0
theorem nmJ2 : ∀ a, a < 0 → ∀ b, b < 0 → a ≠ b → (TJ2 a).2.1 ≠ (TJ2 b).2.1 := by decide +kernel
theorem tyJ2_ok : ∀ k, k < 0 → parseFieldDescriptor (TJ2 k).2.2.1 = some (tyJ2 k) := by decide +kernel
abbrev cJ2_getChar_3b067 : ByteArray := prog_20_method_5_code
def yJ2_getChar_3b067 : MethodName := ⟨RJ2, "getChar", "([BI)C"⟩
abbrev cJ2_length_9d52b : ByteArray := prog_20_method_6_code
def yJ2_length_9d52b : MethodName := ⟨RJ2, "length", "([B)I"⟩
abbrev cJ2_charAt_3b067 : ByteArray := prog_20_method_83_code
def yJ2_charAt_3b067 : MethodName := ⟨RJ2, "charAt", "([BI)C"⟩
abbrev cJ2_checkIndex_2214a : ByteArray := prog_20_method_91_code
def yJ2_checkIndex_2214a : MethodName := ⟨RJ2, "checkIndex", "(I[B)V"⟩
def RJ10 : String := "java/lang/System"
def TJ10 : u_T := fun k => match k with
  | _ => ("", "", "", false)
def tyJ10 : Nat → FieldType := fun k => match k with
  | _ => .int
abbrev wsJ100 : List Cond := u_ws RJ10 TJ10 0
theorem nmJ10 : ∀ a, a < 0 → ∀ b, b < 0 → a ≠ b → (TJ10 a).2.1 ≠ (TJ10 b).2.1 := by decide +kernel
theorem tyJ10_ok : ∀ k, k < 0 → parseFieldDescriptor (TJ10 k).2.2.1 = some (tyJ10 k) := by decide +kernel
def RJ3 : String := "jdk/internal/util/Preconditions"
def TJ3 : u_T := fun k => match k with
  | _ => ("", "", "", false)
def tyJ3 : Nat → FieldType := fun k => match k with
  | _ => .int
abbrev wsJ30 : List Cond := u_ws RJ3 TJ3 0
theorem nmJ3 : ∀ a, a < 0 → ∀ b, b < 0 → a ≠ b → (TJ3 a).2.1 ≠ (TJ3 b).2.1 := by decide +kernel
theorem tyJ3_ok : ∀ k, k < 0 → parseFieldDescriptor (TJ3 k).2.2.1 = some (tyJ3 k) := by decide +kernel
abbrev cJ3_checkIndex_8e157 : ByteArray := prog_23_method_11_code
def yJ3_checkIndex_8e157 : MethodName := ⟨RJ3, "checkIndex", "(IILjava/util/function/BiFunction;)I"⟩
def RL : String := "ForesightHubLaw"
abbrev cL_parse : ByteArray := method_3_code
def yL_parse : MethodName := ⟨RL, "parse", "(LForesightHub;I[J)I"⟩
abbrev cL_size : ByteArray := method_4_code
def yL_size : MethodName := ⟨RL, "size", "(LForesightHub;I[J)I"⟩
abbrev cL_deviceAt : ByteArray := method_5_code
def yL_deviceAt : MethodName := ⟨RL, "deviceAt", "(LForesightHub;I[J)I"⟩
abbrev cL_device : ByteArray := method_6_code
def yL_device : MethodName := ⟨RL, "device", "(LForesightHub;II[J)I"⟩
abbrev cL_stream : ByteArray := method_7_code
def yL_stream : MethodName := ⟨RL, "stream", "(LForesightHub;II[J)I"⟩
abbrev cL_packets : ByteArray := method_8_code
def yL_packets : MethodName := ⟨RL, "packets", "(LForesightHub;I[J)I"⟩
abbrev cL_error : ByteArray := method_9_code
def yL_error : MethodName := ⟨RL, "error", "(LForesightHub;III[J)I"⟩
abbrev cL_cause : ByteArray := method_10_code
def yL_cause : MethodName := ⟨RL, "cause", "(LForesightHub;II[J)I"⟩
abbrev cL_scoreWith : ByteArray := method_11_code
def yL_scoreWith : MethodName := ⟨RL, "scoreWith", "(LForesightHub;II[J)I"⟩
abbrev cL_feared : ByteArray := method_12_code
def yL_feared : MethodName := ⟨RL, "feared", "(LForesightHub;I[J)I"⟩
abbrev cL_framesToClear : ByteArray := method_13_code
def yL_framesToClear : MethodName := ⟨RL, "framesToClear", "(LForesightHub;I[J)I"⟩
abbrev cL_atStake : ByteArray := method_14_code
def yL_atStake : MethodName := ⟨RL, "atStake", "(LForesightHub;I[J)I"⟩
abbrev cL_whyNotRunning : ByteArray := method_15_code
def yL_whyNotRunning : MethodName := ⟨RL, "whyNotRunning", "(LForesightHub;I[J)I"⟩
abbrev cL_event : ByteArray := method_16_code
def yL_event : MethodName := ⟨RL, "event", "(LForesightHub;II[J)I"⟩
abbrev cL_account : ByteArray := method_17_code
def yL_account : MethodName := ⟨RL, "account", "(LForesightHub;I[J)I"⟩
abbrev cL_frames : ByteArray := method_18_code
def yL_frames : MethodName := ⟨RL, "frames", "(LForesightHub;I[J)I"⟩
abbrev cL_fail : ByteArray := method_19_code
def yL_fail : MethodName := ⟨RL, "fail", "(LForesightHub;II[J)I"⟩
abbrev cL_warn : ByteArray := method_20_code
def yL_warn : MethodName := ⟨RL, "warn", "(LForesightHub;I[J)I"⟩
abbrev cL_callOff : ByteArray := method_21_code
def yL_callOff : MethodName := ⟨RL, "callOff", "(LForesightHub;I[J)I"⟩
abbrev cL_unplug : ByteArray := method_22_code
def yL_unplug : MethodName := ⟨RL, "unplug", "(LForesightHub;I[J)I"⟩
abbrev cL_plug : ByteArray := method_23_code
def yL_plug : MethodName := ⟨RL, "plug", "(LForesightHub;II[J)I"⟩
abbrev cL_setScore : ByteArray := method_24_code
def yL_setScore : MethodName := ⟨RL, "setScore", "(LForesightHub;I[J)I"⟩
abbrev cL_law : ByteArray := code
def yL_law : MethodName := ⟨RL, "law", "([I)Z"⟩
theorem dX0_init_0 : decode cX0_init 0 = .ok (.aload_n 0, 1) := by decide +kernel
theorem dX0_init_1 : decode cX0_init 1 = .ok (.invokespecial 3, 3) := by decide +kernel
theorem dX0_init_4 : decode cX0_init 4 = .ok (.aload_n 0, 1) := by decide +kernel
theorem dX0_init_5 : decode cX0_init 5 = .ok (.bipush 8, 2) := by decide +kernel
theorem dX0_init_7 : decode cX0_init 7 = .ok (.newarray .int, 2) := by decide +kernel
theorem dX0_init_9 : decode cX0_init 9 = .ok (.putfield 9, 3) := by decide +kernel
theorem dX0_init_12 : decode cX0_init 12 = .ok (.aload_n 0, 1) := by decide +kernel
theorem dX0_init_13 : decode cX0_init 13 = .ok (.bipush 96, 2) := by decide +kernel
theorem dX0_init_15 : decode cX0_init 15 = .ok (.newarray .int, 2) := by decide +kernel
theorem dX0_init_17 : decode cX0_init 17 = .ok (.putfield 15, 3) := by decide +kernel
theorem dX0_init_20 : decode cX0_init 20 = .ok (.aload_n 0, 1) := by decide +kernel
theorem dX0_init_21 : decode cX0_init 21 = .ok (.bipush 96, 2) := by decide +kernel
theorem dX0_init_23 : decode cX0_init 23 = .ok (.newarray .int, 2) := by decide +kernel
theorem dX0_init_25 : decode cX0_init 25 = .ok (.putfield 18, 3) := by decide +kernel
theorem dX0_init_28 : decode cX0_init 28 = .ok (.aload_n 0, 1) := by decide +kernel
theorem dX0_init_29 : decode cX0_init 29 = .ok (.bipush 32, 2) := by decide +kernel
theorem dX0_init_31 : decode cX0_init 31 = .ok (.newarray .int, 2) := by decide +kernel
theorem dX0_init_33 : decode cX0_init 33 = .ok (.putfield 21, 3) := by decide +kernel
theorem dX0_init_36 : decode cX0_init 36 = .ok (.aload_n 0, 1) := by decide +kernel
theorem dX0_init_37 : decode cX0_init 37 = .ok (.bipush 32, 2) := by decide +kernel
theorem dX0_init_39 : decode cX0_init 39 = .ok (.newarray .int, 2) := by decide +kernel
theorem dX0_init_41 : decode cX0_init 41 = .ok (.putfield 24, 3) := by decide +kernel
theorem dX0_init_44 : decode cX0_init 44 = .ok (.return_, 1) := by decide +kernel
theorem dX0_clear_0 : decode cX0_clear 0 = .ok (.aload_n 0, 1) := by decide +kernel
theorem dX0_clear_1 : decode cX0_clear 1 = .ok (.iconst 0, 1) := by decide +kernel
theorem dX0_clear_2 : decode cX0_clear 2 = .ok (.putfield 27, 3) := by decide +kernel
theorem dX0_clear_5 : decode cX0_clear 5 = .ok (.iconst 0, 1) := by decide +kernel
theorem dX0_clear_6 : decode cX0_clear 6 = .ok (.istore_n 1, 1) := by decide +kernel
theorem dX0_clear_7 : decode cX0_clear 7 = .ok (.iload_n 1, 1) := by decide +kernel
theorem dX0_clear_8 : decode cX0_clear 8 = .ok (.bipush 32, 2) := by decide +kernel
theorem dX0_clear_10 : decode cX0_clear 10 = .ok (.if_icmp .ge 16, 3) := by decide +kernel
theorem dX0_clear_13 : decode cX0_clear 13 = .ok (.aload_n 0, 1) := by decide +kernel
theorem dX0_clear_14 : decode cX0_clear 14 = .ok (.getfield 24, 3) := by decide +kernel
theorem dX0_clear_17 : decode cX0_clear 17 = .ok (.iload_n 1, 1) := by decide +kernel
theorem dX0_clear_18 : decode cX0_clear 18 = .ok (.iconst 0, 1) := by decide +kernel
theorem dX0_clear_19 : decode cX0_clear 19 = .ok (.iastore, 1) := by decide +kernel
theorem dX0_clear_20 : decode cX0_clear 20 = .ok (.iinc 1 1, 3) := by decide +kernel
theorem dX0_clear_23 : decode cX0_clear 23 = .ok (.goto (-16), 3) := by decide +kernel
theorem dX0_clear_26 : decode cX0_clear 26 = .ok (.iconst 0, 1) := by decide +kernel
theorem dX0_clear_27 : decode cX0_clear 27 = .ok (.istore_n 1, 1) := by decide +kernel
theorem dX0_clear_28 : decode cX0_clear 28 = .ok (.iload_n 1, 1) := by decide +kernel
theorem dX0_clear_29 : decode cX0_clear 29 = .ok (.bipush 8, 2) := by decide +kernel
theorem dX0_clear_31 : decode cX0_clear 31 = .ok (.if_icmp .ge 16, 3) := by decide +kernel
theorem dX0_clear_34 : decode cX0_clear 34 = .ok (.aload_n 0, 1) := by decide +kernel
theorem dX0_clear_35 : decode cX0_clear 35 = .ok (.getfield 9, 3) := by decide +kernel
theorem dX0_clear_38 : decode cX0_clear 38 = .ok (.iload_n 1, 1) := by decide +kernel
theorem dX0_clear_39 : decode cX0_clear 39 = .ok (.iconst 0, 1) := by decide +kernel
theorem dX0_clear_40 : decode cX0_clear 40 = .ok (.iastore, 1) := by decide +kernel
theorem dX0_clear_41 : decode cX0_clear 41 = .ok (.iinc 1 1, 3) := by decide +kernel
theorem dX0_clear_44 : decode cX0_clear 44 = .ok (.goto (-16), 3) := by decide +kernel
theorem dX0_clear_47 : decode cX0_clear 47 = .ok (.return_, 1) := by decide +kernel
theorem dX0_copyFrom_0 : decode cX0_copyFrom 0 = .ok (.aload_n 0, 1) := by decide +kernel
theorem dX0_copyFrom_1 : decode cX0_copyFrom 1 = .ok (.aload_n 1, 1) := by decide +kernel
theorem dX0_copyFrom_2 : decode cX0_copyFrom 2 = .ok (.getfield 27, 3) := by decide +kernel
theorem dX0_copyFrom_5 : decode cX0_copyFrom 5 = .ok (.putfield 27, 3) := by decide +kernel
theorem dX0_copyFrom_8 : decode cX0_copyFrom 8 = .ok (.aload_n 1, 1) := by decide +kernel
theorem dX0_copyFrom_9 : decode cX0_copyFrom 9 = .ok (.getfield 9, 3) := by decide +kernel
theorem dX0_copyFrom_12 : decode cX0_copyFrom 12 = .ok (.iconst 0, 1) := by decide +kernel
theorem dX0_copyFrom_13 : decode cX0_copyFrom 13 = .ok (.aload_n 0, 1) := by decide +kernel
theorem dX0_copyFrom_14 : decode cX0_copyFrom 14 = .ok (.getfield 9, 3) := by decide +kernel
theorem dX0_copyFrom_17 : decode cX0_copyFrom 17 = .ok (.iconst 0, 1) := by decide +kernel
theorem dX0_copyFrom_18 : decode cX0_copyFrom 18 = .ok (.bipush 8, 2) := by decide +kernel
theorem dX0_copyFrom_20 : decode cX0_copyFrom 20 = .ok (.invokestatic 31, 3) := by decide +kernel
theorem dX0_copyFrom_23 : decode cX0_copyFrom 23 = .ok (.aload_n 1, 1) := by decide +kernel
theorem dX0_copyFrom_24 : decode cX0_copyFrom 24 = .ok (.getfield 15, 3) := by decide +kernel
theorem dX0_copyFrom_27 : decode cX0_copyFrom 27 = .ok (.iconst 0, 1) := by decide +kernel
theorem dX0_copyFrom_28 : decode cX0_copyFrom 28 = .ok (.aload_n 0, 1) := by decide +kernel
theorem dX0_copyFrom_29 : decode cX0_copyFrom 29 = .ok (.getfield 15, 3) := by decide +kernel
theorem dX0_copyFrom_32 : decode cX0_copyFrom 32 = .ok (.iconst 0, 1) := by decide +kernel
theorem dX0_copyFrom_33 : decode cX0_copyFrom 33 = .ok (.bipush 96, 2) := by decide +kernel
theorem dX0_copyFrom_35 : decode cX0_copyFrom 35 = .ok (.invokestatic 31, 3) := by decide +kernel
theorem dX0_copyFrom_38 : decode cX0_copyFrom 38 = .ok (.aload_n 1, 1) := by decide +kernel
theorem dX0_copyFrom_39 : decode cX0_copyFrom 39 = .ok (.getfield 18, 3) := by decide +kernel
theorem dX0_copyFrom_42 : decode cX0_copyFrom 42 = .ok (.iconst 0, 1) := by decide +kernel
theorem dX0_copyFrom_43 : decode cX0_copyFrom 43 = .ok (.aload_n 0, 1) := by decide +kernel
theorem dX0_copyFrom_44 : decode cX0_copyFrom 44 = .ok (.getfield 18, 3) := by decide +kernel
theorem dX0_copyFrom_47 : decode cX0_copyFrom 47 = .ok (.iconst 0, 1) := by decide +kernel
theorem dX0_copyFrom_48 : decode cX0_copyFrom 48 = .ok (.bipush 96, 2) := by decide +kernel
theorem dX0_copyFrom_50 : decode cX0_copyFrom 50 = .ok (.invokestatic 31, 3) := by decide +kernel
theorem dX0_copyFrom_53 : decode cX0_copyFrom 53 = .ok (.aload_n 1, 1) := by decide +kernel
theorem dX0_copyFrom_54 : decode cX0_copyFrom 54 = .ok (.getfield 21, 3) := by decide +kernel
theorem dX0_copyFrom_57 : decode cX0_copyFrom 57 = .ok (.iconst 0, 1) := by decide +kernel
theorem dX0_copyFrom_58 : decode cX0_copyFrom 58 = .ok (.aload_n 0, 1) := by decide +kernel
theorem dX0_copyFrom_59 : decode cX0_copyFrom 59 = .ok (.getfield 21, 3) := by decide +kernel
theorem dX0_copyFrom_62 : decode cX0_copyFrom 62 = .ok (.iconst 0, 1) := by decide +kernel
theorem dX0_copyFrom_63 : decode cX0_copyFrom 63 = .ok (.bipush 32, 2) := by decide +kernel
theorem dX0_copyFrom_65 : decode cX0_copyFrom 65 = .ok (.invokestatic 31, 3) := by decide +kernel
theorem dX0_copyFrom_68 : decode cX0_copyFrom 68 = .ok (.aload_n 1, 1) := by decide +kernel
theorem dX0_copyFrom_69 : decode cX0_copyFrom 69 = .ok (.getfield 24, 3) := by decide +kernel
theorem dX0_copyFrom_72 : decode cX0_copyFrom 72 = .ok (.iconst 0, 1) := by decide +kernel
theorem dX0_copyFrom_73 : decode cX0_copyFrom 73 = .ok (.aload_n 0, 1) := by decide +kernel
theorem dX0_copyFrom_74 : decode cX0_copyFrom 74 = .ok (.getfield 24, 3) := by decide +kernel
theorem dX0_copyFrom_77 : decode cX0_copyFrom 77 = .ok (.iconst 0, 1) := by decide +kernel
theorem dX0_copyFrom_78 : decode cX0_copyFrom 78 = .ok (.bipush 32, 2) := by decide +kernel
theorem dX0_copyFrom_80 : decode cX0_copyFrom 80 = .ok (.invokestatic 31, 3) := by decide +kernel
theorem dX0_copyFrom_83 : decode cX0_copyFrom 83 = .ok (.return_, 1) := by decide +kernel
theorem dX0_add_0 : decode cX0_add 0 = .ok (.iload_n 1, 1) := by decide +kernel
theorem dX0_add_1 : decode cX0_add 1 = .ok (.ifCond .lt 18, 3) := by decide +kernel
theorem dX0_add_4 : decode cX0_add 4 = .ok (.iload_n 1, 1) := by decide +kernel
theorem dX0_add_5 : decode cX0_add 5 = .ok (.bipush 8, 2) := by decide +kernel
theorem dX0_add_7 : decode cX0_add 7 = .ok (.if_icmp .ge 12, 3) := by decide +kernel
theorem dX0_add_10 : decode cX0_add 10 = .ok (.iload_n 2, 1) := by decide +kernel
theorem dX0_add_11 : decode cX0_add 11 = .ok (.ifCond .lt 8, 3) := by decide +kernel
theorem dX0_add_14 : decode cX0_add 14 = .ok (.iload_n 2, 1) := by decide +kernel
theorem dX0_add_15 : decode cX0_add 15 = .ok (.iconst 4, 1) := by decide +kernel
theorem dX0_add_16 : decode cX0_add 16 = .ok (.if_icmp .lt 4, 3) := by decide +kernel
theorem dX0_add_19 : decode cX0_add 19 = .ok (.return_, 1) := by decide +kernel
theorem dX0_add_20 : decode cX0_add 20 = .ok (.aload_n 0, 1) := by decide +kernel
theorem dX0_add_21 : decode cX0_add 21 = .ok (.getfield 9, 3) := by decide +kernel
theorem dX0_add_24 : decode cX0_add 24 = .ok (.iload_n 1, 1) := by decide +kernel
theorem dX0_add_25 : decode cX0_add 25 = .ok (.iaload, 1) := by decide +kernel
theorem dX0_add_26 : decode cX0_add 26 = .ok (.bipush 12, 2) := by decide +kernel
theorem dX0_add_28 : decode cX0_add 28 = .ok (.if_icmp .lt 8, 3) := by decide +kernel
theorem dX0_add_31 : decode cX0_add 31 = .ok (.aload_n 0, 1) := by decide +kernel
theorem dX0_add_32 : decode cX0_add 32 = .ok (.iload_n 1, 1) := by decide +kernel
theorem dX0_add_33 : decode cX0_add 33 = .ok (.invokevirtual 37, 3) := by decide +kernel
theorem dX0_add_36 : decode cX0_add 36 = .ok (.iload_n 1, 1) := by decide +kernel
theorem dX0_add_37 : decode cX0_add 37 = .ok (.bipush 12, 2) := by decide +kernel
theorem dX0_add_39 : decode cX0_add 39 = .ok (.imul, 1) := by decide +kernel
theorem dX0_add_40 : decode cX0_add 40 = .ok (.aload_n 0, 1) := by decide +kernel
theorem dX0_add_41 : decode cX0_add 41 = .ok (.getfield 9, 3) := by decide +kernel
theorem dX0_add_44 : decode cX0_add 44 = .ok (.iload_n 1, 1) := by decide +kernel
theorem dX0_add_45 : decode cX0_add 45 = .ok (.iaload, 1) := by decide +kernel
theorem dX0_add_46 : decode cX0_add 46 = .ok (.iadd, 1) := by decide +kernel
theorem dX0_add_47 : decode cX0_add 47 = .ok (.istore 4, 2) := by decide +kernel
theorem dX0_add_49 : decode cX0_add 49 = .ok (.iload 4, 2) := by decide +kernel
theorem dX0_add_51 : decode cX0_add 51 = .ok (.ifCond .lt 39, 3) := by decide +kernel
theorem dX0_add_54 : decode cX0_add 54 = .ok (.iload 4, 2) := by decide +kernel
theorem dX0_add_56 : decode cX0_add 56 = .ok (.aload_n 0, 1) := by decide +kernel
theorem dX0_add_57 : decode cX0_add 57 = .ok (.getfield 15, 3) := by decide +kernel
theorem dX0_add_60 : decode cX0_add 60 = .ok (.arraylength, 1) := by decide +kernel
theorem dX0_add_61 : decode cX0_add 61 = .ok (.if_icmp .ge 29, 3) := by decide +kernel
theorem dX0_add_64 : decode cX0_add 64 = .ok (.aload_n 0, 1) := by decide +kernel
theorem dX0_add_65 : decode cX0_add 65 = .ok (.getfield 15, 3) := by decide +kernel
theorem dX0_add_68 : decode cX0_add 68 = .ok (.iload 4, 2) := by decide +kernel
theorem dX0_add_70 : decode cX0_add 70 = .ok (.iload_n 2, 1) := by decide +kernel
theorem dX0_add_71 : decode cX0_add 71 = .ok (.iastore, 1) := by decide +kernel
theorem dX0_add_72 : decode cX0_add 72 = .ok (.aload_n 0, 1) := by decide +kernel
theorem dX0_add_73 : decode cX0_add 73 = .ok (.getfield 18, 3) := by decide +kernel
theorem dX0_add_76 : decode cX0_add 76 = .ok (.iload 4, 2) := by decide +kernel
theorem dX0_add_78 : decode cX0_add 78 = .ok (.iload_n 3, 1) := by decide +kernel
theorem dX0_add_79 : decode cX0_add 79 = .ok (.iastore, 1) := by decide +kernel
theorem dX0_add_80 : decode cX0_add 80 = .ok (.aload_n 0, 1) := by decide +kernel
theorem dX0_add_81 : decode cX0_add 81 = .ok (.getfield 9, 3) := by decide +kernel
theorem dX0_add_84 : decode cX0_add 84 = .ok (.iload_n 1, 1) := by decide +kernel
theorem dX0_add_85 : decode cX0_add 85 = .ok (.dup2, 1) := by decide +kernel
theorem dX0_add_86 : decode cX0_add 86 = .ok (.iaload, 1) := by decide +kernel
theorem dX0_add_87 : decode cX0_add 87 = .ok (.iconst 1, 1) := by decide +kernel
theorem dX0_add_88 : decode cX0_add 88 = .ok (.iadd, 1) := by decide +kernel
theorem dX0_add_89 : decode cX0_add 89 = .ok (.iastore, 1) := by decide +kernel
theorem dX0_add_90 : decode cX0_add 90 = .ok (.aload_n 0, 1) := by decide +kernel
theorem dX0_add_91 : decode cX0_add 91 = .ok (.iload_n 1, 1) := by decide +kernel
theorem dX0_add_92 : decode cX0_add 92 = .ok (.iconst 4, 1) := by decide +kernel
theorem dX0_add_93 : decode cX0_add 93 = .ok (.imul, 1) := by decide +kernel
theorem dX0_add_94 : decode cX0_add 94 = .ok (.iload_n 2, 1) := by decide +kernel
theorem dX0_add_95 : decode cX0_add 95 = .ok (.iadd, 1) := by decide +kernel
theorem dX0_add_96 : decode cX0_add 96 = .ok (.invokevirtual 41, 3) := by decide +kernel
theorem dX0_add_99 : decode cX0_add 99 = .ok (.return_, 1) := by decide +kernel
theorem dX0_dropOldest_0 : decode cX0_dropOldest 0 = .ok (.iload_n 1, 1) := by decide +kernel
theorem dX0_dropOldest_1 : decode cX0_dropOldest 1 = .ok (.bipush 12, 2) := by decide +kernel
theorem dX0_dropOldest_3 : decode cX0_dropOldest 3 = .ok (.imul, 1) := by decide +kernel
theorem dX0_dropOldest_4 : decode cX0_dropOldest 4 = .ok (.istore_n 2, 1) := by decide +kernel
theorem dX0_dropOldest_5 : decode cX0_dropOldest 5 = .ok (.iload_n 2, 1) := by decide +kernel
theorem dX0_dropOldest_6 : decode cX0_dropOldest 6 = .ok (.istore_n 3, 1) := by decide +kernel
theorem dX0_dropOldest_7 : decode cX0_dropOldest 7 = .ok (.iload_n 3, 1) := by decide +kernel
theorem dX0_dropOldest_8 : decode cX0_dropOldest 8 = .ok (.iload_n 2, 1) := by decide +kernel
theorem dX0_dropOldest_9 : decode cX0_dropOldest 9 = .ok (.bipush 12, 2) := by decide +kernel
theorem dX0_dropOldest_11 : decode cX0_dropOldest 11 = .ok (.iadd, 1) := by decide +kernel
theorem dX0_dropOldest_12 : decode cX0_dropOldest 12 = .ok (.iconst 1, 1) := by decide +kernel
theorem dX0_dropOldest_13 : decode cX0_dropOldest 13 = .ok (.isub, 1) := by decide +kernel
theorem dX0_dropOldest_14 : decode cX0_dropOldest 14 = .ok (.if_icmp .ge 37, 3) := by decide +kernel
theorem dX0_dropOldest_17 : decode cX0_dropOldest 17 = .ok (.aload_n 0, 1) := by decide +kernel
theorem dX0_dropOldest_18 : decode cX0_dropOldest 18 = .ok (.getfield 15, 3) := by decide +kernel
theorem dX0_dropOldest_21 : decode cX0_dropOldest 21 = .ok (.iload_n 3, 1) := by decide +kernel
theorem dX0_dropOldest_22 : decode cX0_dropOldest 22 = .ok (.aload_n 0, 1) := by decide +kernel
theorem dX0_dropOldest_23 : decode cX0_dropOldest 23 = .ok (.getfield 15, 3) := by decide +kernel
theorem dX0_dropOldest_26 : decode cX0_dropOldest 26 = .ok (.iload_n 3, 1) := by decide +kernel
theorem dX0_dropOldest_27 : decode cX0_dropOldest 27 = .ok (.iconst 1, 1) := by decide +kernel
theorem dX0_dropOldest_28 : decode cX0_dropOldest 28 = .ok (.iadd, 1) := by decide +kernel
theorem dX0_dropOldest_29 : decode cX0_dropOldest 29 = .ok (.iaload, 1) := by decide +kernel
theorem dX0_dropOldest_30 : decode cX0_dropOldest 30 = .ok (.iastore, 1) := by decide +kernel
theorem dX0_dropOldest_31 : decode cX0_dropOldest 31 = .ok (.aload_n 0, 1) := by decide +kernel
theorem dX0_dropOldest_32 : decode cX0_dropOldest 32 = .ok (.getfield 18, 3) := by decide +kernel
theorem dX0_dropOldest_35 : decode cX0_dropOldest 35 = .ok (.iload_n 3, 1) := by decide +kernel
theorem dX0_dropOldest_36 : decode cX0_dropOldest 36 = .ok (.aload_n 0, 1) := by decide +kernel
theorem dX0_dropOldest_37 : decode cX0_dropOldest 37 = .ok (.getfield 18, 3) := by decide +kernel
theorem dX0_dropOldest_40 : decode cX0_dropOldest 40 = .ok (.iload_n 3, 1) := by decide +kernel
theorem dX0_dropOldest_41 : decode cX0_dropOldest 41 = .ok (.iconst 1, 1) := by decide +kernel
theorem dX0_dropOldest_42 : decode cX0_dropOldest 42 = .ok (.iadd, 1) := by decide +kernel
theorem dX0_dropOldest_43 : decode cX0_dropOldest 43 = .ok (.iaload, 1) := by decide +kernel
theorem dX0_dropOldest_44 : decode cX0_dropOldest 44 = .ok (.iastore, 1) := by decide +kernel
theorem dX0_dropOldest_45 : decode cX0_dropOldest 45 = .ok (.iinc 3 1, 3) := by decide +kernel
theorem dX0_dropOldest_48 : decode cX0_dropOldest 48 = .ok (.goto (-41), 3) := by decide +kernel
theorem dX0_dropOldest_51 : decode cX0_dropOldest 51 = .ok (.aload_n 0, 1) := by decide +kernel
theorem dX0_dropOldest_52 : decode cX0_dropOldest 52 = .ok (.getfield 9, 3) := by decide +kernel
theorem dX0_dropOldest_55 : decode cX0_dropOldest 55 = .ok (.iload_n 1, 1) := by decide +kernel
theorem dX0_dropOldest_56 : decode cX0_dropOldest 56 = .ok (.bipush 11, 2) := by decide +kernel
theorem dX0_dropOldest_58 : decode cX0_dropOldest 58 = .ok (.iastore, 1) := by decide +kernel
theorem dX0_dropOldest_59 : decode cX0_dropOldest 59 = .ok (.return_, 1) := by decide +kernel
theorem dX0_countCause_0 : decode cX0_countCause 0 = .ok (.iload_n 1, 1) := by decide +kernel
theorem dX0_countCause_1 : decode cX0_countCause 1 = .ok (.ifCond .lt 9, 3) := by decide +kernel
theorem dX0_countCause_4 : decode cX0_countCause 4 = .ok (.iload_n 1, 1) := by decide +kernel
theorem dX0_countCause_5 : decode cX0_countCause 5 = .ok (.bipush 32, 2) := by decide +kernel
theorem dX0_countCause_7 : decode cX0_countCause 7 = .ok (.if_icmp .lt 4, 3) := by decide +kernel
theorem dX0_countCause_10 : decode cX0_countCause 10 = .ok (.return_, 1) := by decide +kernel
theorem dX0_countCause_11 : decode cX0_countCause 11 = .ok (.aload_n 0, 1) := by decide +kernel
theorem dX0_countCause_12 : decode cX0_countCause 12 = .ok (.getfield 24, 3) := by decide +kernel
theorem dX0_countCause_15 : decode cX0_countCause 15 = .ok (.iload_n 1, 1) := by decide +kernel
theorem dX0_countCause_16 : decode cX0_countCause 16 = .ok (.iaload, 1) := by decide +kernel
theorem dX0_countCause_17 : decode cX0_countCause 17 = .ok (.ifCond .ne 32, 3) := by decide +kernel
theorem dX0_countCause_20 : decode cX0_countCause 20 = .ok (.aload_n 0, 1) := by decide +kernel
theorem dX0_countCause_21 : decode cX0_countCause 21 = .ok (.getfield 27, 3) := by decide +kernel
theorem dX0_countCause_24 : decode cX0_countCause 24 = .ok (.bipush 32, 2) := by decide +kernel
theorem dX0_countCause_26 : decode cX0_countCause 26 = .ok (.if_icmp .ge 23, 3) := by decide +kernel
theorem dX0_countCause_29 : decode cX0_countCause 29 = .ok (.aload_n 0, 1) := by decide +kernel
theorem dX0_countCause_30 : decode cX0_countCause 30 = .ok (.getfield 21, 3) := by decide +kernel
theorem dX0_countCause_33 : decode cX0_countCause 33 = .ok (.aload_n 0, 1) := by decide +kernel
theorem dX0_countCause_34 : decode cX0_countCause 34 = .ok (.getfield 27, 3) := by decide +kernel
theorem dX0_countCause_37 : decode cX0_countCause 37 = .ok (.iload_n 1, 1) := by decide +kernel
theorem dX0_countCause_38 : decode cX0_countCause 38 = .ok (.iastore, 1) := by decide +kernel
theorem dX0_countCause_39 : decode cX0_countCause 39 = .ok (.aload_n 0, 1) := by decide +kernel
theorem dX0_countCause_40 : decode cX0_countCause 40 = .ok (.dup, 1) := by decide +kernel
theorem dX0_countCause_41 : decode cX0_countCause 41 = .ok (.getfield 27, 3) := by decide +kernel
theorem dX0_countCause_44 : decode cX0_countCause 44 = .ok (.iconst 1, 1) := by decide +kernel
theorem dX0_countCause_45 : decode cX0_countCause 45 = .ok (.iadd, 1) := by decide +kernel
theorem dX0_countCause_46 : decode cX0_countCause 46 = .ok (.putfield 27, 3) := by decide +kernel
theorem dX0_countCause_49 : decode cX0_countCause 49 = .ok (.aload_n 0, 1) := by decide +kernel
theorem dX0_countCause_50 : decode cX0_countCause 50 = .ok (.getfield 24, 3) := by decide +kernel
theorem dX0_countCause_53 : decode cX0_countCause 53 = .ok (.iload_n 1, 1) := by decide +kernel
theorem dX0_countCause_54 : decode cX0_countCause 54 = .ok (.dup2, 1) := by decide +kernel
theorem dX0_countCause_55 : decode cX0_countCause 55 = .ok (.iaload, 1) := by decide +kernel
theorem dX0_countCause_56 : decode cX0_countCause 56 = .ok (.iconst 1, 1) := by decide +kernel
theorem dX0_countCause_57 : decode cX0_countCause 57 = .ok (.iadd, 1) := by decide +kernel
theorem dX0_countCause_58 : decode cX0_countCause 58 = .ok (.iastore, 1) := by decide +kernel
theorem dX0_countCause_59 : decode cX0_countCause 59 = .ok (.return_, 1) := by decide +kernel
theorem dX0_forget_0 : decode cX0_forget 0 = .ok (.iload_n 1, 1) := by decide +kernel
theorem dX0_forget_1 : decode cX0_forget 1 = .ok (.ifCond .lt 16, 3) := by decide +kernel
theorem dX0_forget_4 : decode cX0_forget 4 = .ok (.iload_n 1, 1) := by decide +kernel
theorem dX0_forget_5 : decode cX0_forget 5 = .ok (.bipush 8, 2) := by decide +kernel
theorem dX0_forget_7 : decode cX0_forget 7 = .ok (.if_icmp .ge 10, 3) := by decide +kernel
theorem dX0_forget_10 : decode cX0_forget 10 = .ok (.aload_n 0, 1) := by decide +kernel
theorem dX0_forget_11 : decode cX0_forget 11 = .ok (.getfield 9, 3) := by decide +kernel
theorem dX0_forget_14 : decode cX0_forget 14 = .ok (.iload_n 1, 1) := by decide +kernel
theorem dX0_forget_15 : decode cX0_forget 15 = .ok (.iconst 0, 1) := by decide +kernel
theorem dX0_forget_16 : decode cX0_forget 16 = .ok (.iastore, 1) := by decide +kernel
theorem dX0_forget_17 : decode cX0_forget 17 = .ok (.return_, 1) := by decide +kernel
theorem dX0_kindOf_0 : decode cX0_kindOf 0 = .ok (.aload_n 0, 1) := by decide +kernel
theorem dX0_kindOf_1 : decode cX0_kindOf 1 = .ok (.iload_n 1, 1) := by decide +kernel
theorem dX0_kindOf_2 : decode cX0_kindOf 2 = .ok (.iload_n 2, 1) := by decide +kernel
theorem dX0_kindOf_3 : decode cX0_kindOf 3 = .ok (.invokevirtual 44, 3) := by decide +kernel
theorem dX0_kindOf_6 : decode cX0_kindOf 6 = .ok (.istore_n 3, 1) := by decide +kernel
theorem dX0_kindOf_7 : decode cX0_kindOf 7 = .ok (.iload_n 3, 1) := by decide +kernel
theorem dX0_kindOf_8 : decode cX0_kindOf 8 = .ok (.iconst (-1), 1) := by decide +kernel
theorem dX0_kindOf_9 : decode cX0_kindOf 9 = .ok (.if_icmp .ne 7, 3) := by decide +kernel
theorem dX0_kindOf_12 : decode cX0_kindOf 12 = .ok (.iconst (-1), 1) := by decide +kernel
theorem dX0_kindOf_13 : decode cX0_kindOf 13 = .ok (.goto 9, 3) := by decide +kernel
theorem dX0_kindOf_16 : decode cX0_kindOf 16 = .ok (.aload_n 0, 1) := by decide +kernel
theorem dX0_kindOf_17 : decode cX0_kindOf 17 = .ok (.getfield 15, 3) := by decide +kernel
theorem dX0_kindOf_20 : decode cX0_kindOf 20 = .ok (.iload_n 3, 1) := by decide +kernel
theorem dX0_kindOf_21 : decode cX0_kindOf 21 = .ok (.iaload, 1) := by decide +kernel
theorem dX0_kindOf_22 : decode cX0_kindOf 22 = .ok (.ireturn, 1) := by decide +kernel
theorem dX0_timeOf_0 : decode cX0_timeOf 0 = .ok (.aload_n 0, 1) := by decide +kernel
theorem dX0_timeOf_1 : decode cX0_timeOf 1 = .ok (.iload_n 1, 1) := by decide +kernel
theorem dX0_timeOf_2 : decode cX0_timeOf 2 = .ok (.iload_n 2, 1) := by decide +kernel
theorem dX0_timeOf_3 : decode cX0_timeOf 3 = .ok (.invokevirtual 44, 3) := by decide +kernel
theorem dX0_timeOf_6 : decode cX0_timeOf 6 = .ok (.istore_n 3, 1) := by decide +kernel
theorem dX0_timeOf_7 : decode cX0_timeOf 7 = .ok (.iload_n 3, 1) := by decide +kernel
theorem dX0_timeOf_8 : decode cX0_timeOf 8 = .ok (.iconst (-1), 1) := by decide +kernel
theorem dX0_timeOf_9 : decode cX0_timeOf 9 = .ok (.if_icmp .ne 7, 3) := by decide +kernel
theorem dX0_timeOf_12 : decode cX0_timeOf 12 = .ok (.iconst (-1), 1) := by decide +kernel
theorem dX0_timeOf_13 : decode cX0_timeOf 13 = .ok (.goto 9, 3) := by decide +kernel
theorem dX0_timeOf_16 : decode cX0_timeOf 16 = .ok (.aload_n 0, 1) := by decide +kernel
theorem dX0_timeOf_17 : decode cX0_timeOf 17 = .ok (.getfield 18, 3) := by decide +kernel
theorem dX0_timeOf_20 : decode cX0_timeOf 20 = .ok (.iload_n 3, 1) := by decide +kernel
theorem dX0_timeOf_21 : decode cX0_timeOf 21 = .ok (.iaload, 1) := by decide +kernel
theorem dX0_timeOf_22 : decode cX0_timeOf 22 = .ok (.ireturn, 1) := by decide +kernel
theorem dX0_placeOf_0 : decode cX0_placeOf 0 = .ok (.iload_n 1, 1) := by decide +kernel
theorem dX0_placeOf_1 : decode cX0_placeOf 1 = .ok (.ifCond .lt 23, 3) := by decide +kernel
theorem dX0_placeOf_4 : decode cX0_placeOf 4 = .ok (.iload_n 1, 1) := by decide +kernel
theorem dX0_placeOf_5 : decode cX0_placeOf 5 = .ok (.bipush 8, 2) := by decide +kernel
theorem dX0_placeOf_7 : decode cX0_placeOf 7 = .ok (.if_icmp .ge 17, 3) := by decide +kernel
theorem dX0_placeOf_10 : decode cX0_placeOf 10 = .ok (.iload_n 2, 1) := by decide +kernel
theorem dX0_placeOf_11 : decode cX0_placeOf 11 = .ok (.ifCond .lt 13, 3) := by decide +kernel
theorem dX0_placeOf_14 : decode cX0_placeOf 14 = .ok (.iload_n 2, 1) := by decide +kernel
theorem dX0_placeOf_15 : decode cX0_placeOf 15 = .ok (.aload_n 0, 1) := by decide +kernel
theorem dX0_placeOf_16 : decode cX0_placeOf 16 = .ok (.getfield 9, 3) := by decide +kernel
theorem dX0_placeOf_19 : decode cX0_placeOf 19 = .ok (.iload_n 1, 1) := by decide +kernel
theorem dX0_placeOf_20 : decode cX0_placeOf 20 = .ok (.iaload, 1) := by decide +kernel
theorem dX0_placeOf_21 : decode cX0_placeOf 21 = .ok (.if_icmp .lt 5, 3) := by decide +kernel
theorem dX0_placeOf_24 : decode cX0_placeOf 24 = .ok (.iconst (-1), 1) := by decide +kernel
theorem dX0_placeOf_25 : decode cX0_placeOf 25 = .ok (.ireturn, 1) := by decide +kernel
theorem dX0_placeOf_26 : decode cX0_placeOf 26 = .ok (.iload_n 1, 1) := by decide +kernel
theorem dX0_placeOf_27 : decode cX0_placeOf 27 = .ok (.bipush 12, 2) := by decide +kernel
theorem dX0_placeOf_29 : decode cX0_placeOf 29 = .ok (.imul, 1) := by decide +kernel
theorem dX0_placeOf_30 : decode cX0_placeOf 30 = .ok (.aload_n 0, 1) := by decide +kernel
theorem dX0_placeOf_31 : decode cX0_placeOf 31 = .ok (.getfield 9, 3) := by decide +kernel
theorem dX0_placeOf_34 : decode cX0_placeOf 34 = .ok (.iload_n 1, 1) := by decide +kernel
theorem dX0_placeOf_35 : decode cX0_placeOf 35 = .ok (.iaload, 1) := by decide +kernel
theorem dX0_placeOf_36 : decode cX0_placeOf 36 = .ok (.iadd, 1) := by decide +kernel
theorem dX0_placeOf_37 : decode cX0_placeOf 37 = .ok (.iconst 1, 1) := by decide +kernel
theorem dX0_placeOf_38 : decode cX0_placeOf 38 = .ok (.isub, 1) := by decide +kernel
theorem dX0_placeOf_39 : decode cX0_placeOf 39 = .ok (.iload_n 2, 1) := by decide +kernel
theorem dX0_placeOf_40 : decode cX0_placeOf 40 = .ok (.isub, 1) := by decide +kernel
theorem dX0_placeOf_41 : decode cX0_placeOf 41 = .ok (.ireturn, 1) := by decide +kernel
theorem dX0_staying_0 : decode cX0_staying 0 = .ok (.iload_n 1, 1) := by decide +kernel
theorem dX0_staying_1 : decode cX0_staying 1 = .ok (.ifCond .lt 9, 3) := by decide +kernel
theorem dX0_staying_4 : decode cX0_staying 4 = .ok (.iload_n 1, 1) := by decide +kernel
theorem dX0_staying_5 : decode cX0_staying 5 = .ok (.bipush 8, 2) := by decide +kernel
theorem dX0_staying_7 : decode cX0_staying 7 = .ok (.if_icmp .lt 5, 3) := by decide +kernel
theorem dX0_staying_10 : decode cX0_staying 10 = .ok (.iconst 0, 1) := by decide +kernel
theorem dX0_staying_11 : decode cX0_staying 11 = .ok (.ireturn, 1) := by decide +kernel
theorem dX0_staying_12 : decode cX0_staying 12 = .ok (.aload_n 0, 1) := by decide +kernel
theorem dX0_staying_13 : decode cX0_staying 13 = .ok (.getfield 9, 3) := by decide +kernel
theorem dX0_staying_16 : decode cX0_staying 16 = .ok (.iload_n 1, 1) := by decide +kernel
theorem dX0_staying_17 : decode cX0_staying 17 = .ok (.iaload, 1) := by decide +kernel
theorem dX0_staying_18 : decode cX0_staying 18 = .ok (.bipush 11, 2) := by decide +kernel
theorem dX0_staying_20 : decode cX0_staying 20 = .ok (.invokestatic 48, 3) := by decide +kernel
theorem dX0_staying_23 : decode cX0_staying 23 = .ok (.ireturn, 1) := by decide +kernel
theorem dX0_causePart_0 : decode cX0_causePart 0 = .ok (.iload_n 1, 1) := by decide +kernel
theorem dX0_causePart_1 : decode cX0_causePart 1 = .ok (.ifCond .lt 17, 3) := by decide +kernel
theorem dX0_causePart_4 : decode cX0_causePart 4 = .ok (.iload_n 1, 1) := by decide +kernel
theorem dX0_causePart_5 : decode cX0_causePart 5 = .ok (.aload_n 0, 1) := by decide +kernel
theorem dX0_causePart_6 : decode cX0_causePart 6 = .ok (.getfield 27, 3) := by decide +kernel
theorem dX0_causePart_9 : decode cX0_causePart 9 = .ok (.if_icmp .ge 9, 3) := by decide +kernel
theorem dX0_causePart_12 : decode cX0_causePart 12 = .ok (.iload_n 1, 1) := by decide +kernel
theorem dX0_causePart_13 : decode cX0_causePart 13 = .ok (.bipush 32, 2) := by decide +kernel
theorem dX0_causePart_15 : decode cX0_causePart 15 = .ok (.if_icmp .lt 5, 3) := by decide +kernel
theorem dX0_causePart_18 : decode cX0_causePart 18 = .ok (.iconst (-1), 1) := by decide +kernel
theorem dX0_causePart_19 : decode cX0_causePart 19 = .ok (.ireturn, 1) := by decide +kernel
theorem dX0_causePart_20 : decode cX0_causePart 20 = .ok (.aload_n 0, 1) := by decide +kernel
theorem dX0_causePart_21 : decode cX0_causePart 21 = .ok (.getfield 21, 3) := by decide +kernel
theorem dX0_causePart_24 : decode cX0_causePart 24 = .ok (.iload_n 1, 1) := by decide +kernel
theorem dX0_causePart_25 : decode cX0_causePart 25 = .ok (.iaload, 1) := by decide +kernel
theorem dX0_causePart_26 : decode cX0_causePart 26 = .ok (.istore_n 3, 1) := by decide +kernel
theorem dX0_causePart_27 : decode cX0_causePart 27 = .ok (.iload_n 2, 1) := by decide +kernel
theorem dX0_causePart_28 : decode cX0_causePart 28 = .ok (.lookupswitch 36 #[(0, 28), (1, 32)], 28) := by decide +kernel
theorem dX0_causePart_56 : decode cX0_causePart 56 = .ok (.iload_n 3, 1) := by decide +kernel
theorem dX0_causePart_57 : decode cX0_causePart 57 = .ok (.iconst 4, 1) := by decide +kernel
theorem dX0_causePart_58 : decode cX0_causePart 58 = .ok (.idiv, 1) := by decide +kernel
theorem dX0_causePart_59 : decode cX0_causePart 59 = .ok (.ireturn, 1) := by decide +kernel
theorem dX0_causePart_60 : decode cX0_causePart 60 = .ok (.iload_n 3, 1) := by decide +kernel
theorem dX0_causePart_61 : decode cX0_causePart 61 = .ok (.iconst 4, 1) := by decide +kernel
theorem dX0_causePart_62 : decode cX0_causePart 62 = .ok (.irem, 1) := by decide +kernel
theorem dX0_causePart_63 : decode cX0_causePart 63 = .ok (.ireturn, 1) := by decide +kernel
theorem dX0_causePart_64 : decode cX0_causePart 64 = .ok (.iload_n 3, 1) := by decide +kernel
theorem dX0_causePart_65 : decode cX0_causePart 65 = .ok (.ifCond .lt 18, 3) := by decide +kernel
theorem dX0_causePart_68 : decode cX0_causePart 68 = .ok (.iload_n 3, 1) := by decide +kernel
theorem dX0_causePart_69 : decode cX0_causePart 69 = .ok (.bipush 32, 2) := by decide +kernel
theorem dX0_causePart_71 : decode cX0_causePart 71 = .ok (.if_icmp .ge 12, 3) := by decide +kernel
theorem dX0_causePart_74 : decode cX0_causePart 74 = .ok (.aload_n 0, 1) := by decide +kernel
theorem dX0_causePart_75 : decode cX0_causePart 75 = .ok (.getfield 24, 3) := by decide +kernel
theorem dX0_causePart_78 : decode cX0_causePart 78 = .ok (.iload_n 3, 1) := by decide +kernel
theorem dX0_causePart_79 : decode cX0_causePart 79 = .ok (.iaload, 1) := by decide +kernel
theorem dX0_causePart_80 : decode cX0_causePart 80 = .ok (.goto 4, 3) := by decide +kernel
theorem dX0_causePart_83 : decode cX0_causePart 83 = .ok (.iconst (-1), 1) := by decide +kernel
theorem dX0_causePart_84 : decode cX0_causePart 84 = .ok (.ireturn, 1) := by decide +kernel
theorem dX1_init_0 : decode cX1_init 0 = .ok (.aload_n 0, 1) := by decide +kernel
theorem dX1_init_1 : decode cX1_init 1 = .ok (.invokespecial 1, 3) := by decide +kernel
theorem dX1_init_4 : decode cX1_init 4 = .ok (.aload_n 0, 1) := by decide +kernel
theorem dX1_init_5 : decode cX1_init 5 = .ok (.bipush 10, 2) := by decide +kernel
theorem dX1_init_7 : decode cX1_init 7 = .ok (.anewarray 9, 3) := by decide +kernel
theorem dX1_init_10 : decode cX1_init 10 = .ok (.putfield 11, 3) := by decide +kernel
theorem dX1_init_13 : decode cX1_init 13 = .ok (.iconst 0, 1) := by decide +kernel
theorem dX1_init_14 : decode cX1_init 14 = .ok (.istore_n 1, 1) := by decide +kernel
theorem dX1_init_15 : decode cX1_init 15 = .ok (.iload_n 1, 1) := by decide +kernel
theorem dX1_init_16 : decode cX1_init 16 = .ok (.bipush 10, 2) := by decide +kernel
theorem dX1_init_18 : decode cX1_init 18 = .ok (.if_icmp .ge 22, 3) := by decide +kernel
theorem dX1_init_21 : decode cX1_init 21 = .ok (.aload_n 0, 1) := by decide +kernel
theorem dX1_init_22 : decode cX1_init 22 = .ok (.getfield 11, 3) := by decide +kernel
theorem dX1_init_25 : decode cX1_init 25 = .ok (.iload_n 1, 1) := by decide +kernel
theorem dX1_init_26 : decode cX1_init 26 = .ok (.new 9, 3) := by decide +kernel
theorem dX1_init_29 : decode cX1_init 29 = .ok (.dup, 1) := by decide +kernel
theorem dX1_init_30 : decode cX1_init 30 = .ok (.invokespecial 15, 3) := by decide +kernel
theorem dX1_init_33 : decode cX1_init 33 = .ok (.aastore, 1) := by decide +kernel
theorem dX1_init_34 : decode cX1_init 34 = .ok (.iinc 1 1, 3) := by decide +kernel
theorem dX1_init_37 : decode cX1_init 37 = .ok (.goto (-22), 3) := by decide +kernel
theorem dX1_init_40 : decode cX1_init 40 = .ok (.return_, 1) := by decide +kernel
theorem dX1_clear_0 : decode cX1_clear 0 = .ok (.aload_n 0, 1) := by decide +kernel
theorem dX1_clear_1 : decode cX1_clear 1 = .ok (.iconst 0, 1) := by decide +kernel
theorem dX1_clear_2 : decode cX1_clear 2 = .ok (.putfield 16, 3) := by decide +kernel
theorem dX1_clear_5 : decode cX1_clear 5 = .ok (.return_, 1) := by decide +kernel
theorem dX1_remember_0 : decode cX1_remember 0 = .ok (.aload_n 0, 1) := by decide +kernel
theorem dX1_remember_1 : decode cX1_remember 1 = .ok (.getfield 20, 3) := by decide +kernel
theorem dX1_remember_4 : decode cX1_remember 4 = .ok (.ifCond .lt 12, 3) := by decide +kernel
theorem dX1_remember_7 : decode cX1_remember 7 = .ok (.aload_n 0, 1) := by decide +kernel
theorem dX1_remember_8 : decode cX1_remember 8 = .ok (.getfield 20, 3) := by decide +kernel
theorem dX1_remember_11 : decode cX1_remember 11 = .ok (.bipush 10, 2) := by decide +kernel
theorem dX1_remember_13 : decode cX1_remember 13 = .ok (.if_icmp .lt 8, 3) := by decide +kernel
theorem dX1_remember_16 : decode cX1_remember 16 = .ok (.aload_n 0, 1) := by decide +kernel
theorem dX1_remember_17 : decode cX1_remember 17 = .ok (.iconst 0, 1) := by decide +kernel
theorem dX1_remember_18 : decode cX1_remember 18 = .ok (.putfield 20, 3) := by decide +kernel
theorem dX1_remember_21 : decode cX1_remember 21 = .ok (.aload_n 0, 1) := by decide +kernel
theorem dX1_remember_22 : decode cX1_remember 22 = .ok (.getfield 11, 3) := by decide +kernel
theorem dX1_remember_25 : decode cX1_remember 25 = .ok (.aload_n 0, 1) := by decide +kernel
theorem dX1_remember_26 : decode cX1_remember 26 = .ok (.getfield 20, 3) := by decide +kernel
theorem dX1_remember_29 : decode cX1_remember 29 = .ok (.aaload, 1) := by decide +kernel
theorem dX1_remember_30 : decode cX1_remember 30 = .ok (.aload_n 1, 1) := by decide +kernel
theorem dX1_remember_31 : decode cX1_remember 31 = .ok (.invokevirtual 23, 3) := by decide +kernel
theorem dX1_remember_34 : decode cX1_remember 34 = .ok (.aload_n 0, 1) := by decide +kernel
theorem dX1_remember_35 : decode cX1_remember 35 = .ok (.aload_n 0, 1) := by decide +kernel
theorem dX1_remember_36 : decode cX1_remember 36 = .ok (.getfield 20, 3) := by decide +kernel
theorem dX1_remember_39 : decode cX1_remember 39 = .ok (.iconst 1, 1) := by decide +kernel
theorem dX1_remember_40 : decode cX1_remember 40 = .ok (.iadd, 1) := by decide +kernel
theorem dX1_remember_41 : decode cX1_remember 41 = .ok (.bipush 10, 2) := by decide +kernel
theorem dX1_remember_43 : decode cX1_remember 43 = .ok (.irem, 1) := by decide +kernel
theorem dX1_remember_44 : decode cX1_remember 44 = .ok (.putfield 20, 3) := by decide +kernel
theorem dX1_remember_47 : decode cX1_remember 47 = .ok (.aload_n 0, 1) := by decide +kernel
theorem dX1_remember_48 : decode cX1_remember 48 = .ok (.aload_n 0, 1) := by decide +kernel
theorem dX1_remember_49 : decode cX1_remember 49 = .ok (.getfield 16, 3) := by decide +kernel
theorem dX1_remember_52 : decode cX1_remember 52 = .ok (.iconst 1, 1) := by decide +kernel
theorem dX1_remember_53 : decode cX1_remember 53 = .ok (.iadd, 1) := by decide +kernel
theorem dX1_remember_54 : decode cX1_remember 54 = .ok (.bipush 10, 2) := by decide +kernel
theorem dX1_remember_56 : decode cX1_remember 56 = .ok (.invokestatic 27, 3) := by decide +kernel
theorem dX1_remember_59 : decode cX1_remember 59 = .ok (.putfield 16, 3) := by decide +kernel
theorem dX1_remember_62 : decode cX1_remember 62 = .ok (.return_, 1) := by decide +kernel
theorem dX1_takeBack_0 : decode cX1_takeBack 0 = .ok (.aload_n 0, 1) := by decide +kernel
theorem dX1_takeBack_1 : decode cX1_takeBack 1 = .ok (.getfield 16, 3) := by decide +kernel
theorem dX1_takeBack_4 : decode cX1_takeBack 4 = .ok (.ifCond .gt 5, 3) := by decide +kernel
theorem dX1_takeBack_7 : decode cX1_takeBack 7 = .ok (.iconst 0, 1) := by decide +kernel
theorem dX1_takeBack_8 : decode cX1_takeBack 8 = .ok (.ireturn, 1) := by decide +kernel
theorem dX1_takeBack_9 : decode cX1_takeBack 9 = .ok (.aload_n 0, 1) := by decide +kernel
theorem dX1_takeBack_10 : decode cX1_takeBack 10 = .ok (.aload_n 0, 1) := by decide +kernel
theorem dX1_takeBack_11 : decode cX1_takeBack 11 = .ok (.getfield 20, 3) := by decide +kernel
theorem dX1_takeBack_14 : decode cX1_takeBack 14 = .ok (.iconst 1, 1) := by decide +kernel
theorem dX1_takeBack_15 : decode cX1_takeBack 15 = .ok (.isub, 1) := by decide +kernel
theorem dX1_takeBack_16 : decode cX1_takeBack 16 = .ok (.bipush 10, 2) := by decide +kernel
theorem dX1_takeBack_18 : decode cX1_takeBack 18 = .ok (.invokestatic 33, 3) := by decide +kernel
theorem dX1_takeBack_21 : decode cX1_takeBack 21 = .ok (.putfield 20, 3) := by decide +kernel
theorem dX1_takeBack_24 : decode cX1_takeBack 24 = .ok (.aload_n 1, 1) := by decide +kernel
theorem dX1_takeBack_25 : decode cX1_takeBack 25 = .ok (.aload_n 0, 1) := by decide +kernel
theorem dX1_takeBack_26 : decode cX1_takeBack 26 = .ok (.getfield 11, 3) := by decide +kernel
theorem dX1_takeBack_29 : decode cX1_takeBack 29 = .ok (.aload_n 0, 1) := by decide +kernel
theorem dX1_takeBack_30 : decode cX1_takeBack 30 = .ok (.getfield 20, 3) := by decide +kernel
theorem dX1_takeBack_33 : decode cX1_takeBack 33 = .ok (.aaload, 1) := by decide +kernel
theorem dX1_takeBack_34 : decode cX1_takeBack 34 = .ok (.invokevirtual 23, 3) := by decide +kernel
theorem dX1_takeBack_37 : decode cX1_takeBack 37 = .ok (.aload_n 0, 1) := by decide +kernel
theorem dX1_takeBack_38 : decode cX1_takeBack 38 = .ok (.dup, 1) := by decide +kernel
theorem dX1_takeBack_39 : decode cX1_takeBack 39 = .ok (.getfield 16, 3) := by decide +kernel
theorem dX1_takeBack_42 : decode cX1_takeBack 42 = .ok (.iconst 1, 1) := by decide +kernel
theorem dX1_takeBack_43 : decode cX1_takeBack 43 = .ok (.isub, 1) := by decide +kernel
theorem dX1_takeBack_44 : decode cX1_takeBack 44 = .ok (.putfield 16, 3) := by decide +kernel
theorem dX1_takeBack_47 : decode cX1_takeBack 47 = .ok (.iconst 1, 1) := by decide +kernel
theorem dX1_takeBack_48 : decode cX1_takeBack 48 = .ok (.ireturn, 1) := by decide +kernel
theorem dX2_init_0 : decode cX2_init 0 = .ok (.aload_n 0, 1) := by decide +kernel
theorem dX2_init_1 : decode cX2_init 1 = .ok (.invokespecial 3, 3) := by decide +kernel
theorem dX2_init_4 : decode cX2_init 4 = .ok (.aload_n 0, 1) := by decide +kernel
theorem dX2_init_5 : decode cX2_init 5 = .ok (.new 9, 3) := by decide +kernel
theorem dX2_init_8 : decode cX2_init 8 = .ok (.dup, 1) := by decide +kernel
theorem dX2_init_9 : decode cX2_init 9 = .ok (.invokespecial 11, 3) := by decide +kernel
theorem dX2_init_12 : decode cX2_init 12 = .ok (.putfield 12, 3) := by decide +kernel
theorem dX2_init_15 : decode cX2_init 15 = .ok (.aload_n 0, 1) := by decide +kernel
theorem dX2_init_16 : decode cX2_init 16 = .ok (.new 18, 3) := by decide +kernel
theorem dX2_init_19 : decode cX2_init 19 = .ok (.dup, 1) := by decide +kernel
theorem dX2_init_20 : decode cX2_init 20 = .ok (.invokespecial 20, 3) := by decide +kernel
theorem dX2_init_23 : decode cX2_init 23 = .ok (.putfield 21, 3) := by decide +kernel
theorem dX2_init_26 : decode cX2_init 26 = .ok (.aload_n 0, 1) := by decide +kernel
theorem dX2_init_27 : decode cX2_init 27 = .ok (.getfield 21, 3) := by decide +kernel
theorem dX2_init_30 : decode cX2_init 30 = .ok (.aload_n 0, 1) := by decide +kernel
theorem dX2_init_31 : decode cX2_init 31 = .ok (.getfield 12, 3) := by decide +kernel
theorem dX2_init_34 : decode cX2_init 34 = .ok (.getfield 25, 3) := by decide +kernel
theorem dX2_init_37 : decode cX2_init 37 = .ok (.putfield 29, 3) := by decide +kernel
theorem dX2_init_40 : decode cX2_init 40 = .ok (.return_, 1) := by decide +kernel
theorem dX2_begin_0 : decode cX2_begin 0 = .ok (.aload_n 0, 1) := by decide +kernel
theorem dX2_begin_1 : decode cX2_begin 1 = .ok (.aload_n 1, 1) := by decide +kernel
theorem dX2_begin_2 : decode cX2_begin 2 = .ok (.putfield 12, 3) := by decide +kernel
theorem dX2_begin_5 : decode cX2_begin 5 = .ok (.aload_n 0, 1) := by decide +kernel
theorem dX2_begin_6 : decode cX2_begin 6 = .ok (.getfield 21, 3) := by decide +kernel
theorem dX2_begin_9 : decode cX2_begin 9 = .ok (.aload_n 1, 1) := by decide +kernel
theorem dX2_begin_10 : decode cX2_begin 10 = .ok (.invokevirtual 32, 3) := by decide +kernel
theorem dX2_begin_13 : decode cX2_begin 13 = .ok (.aload_n 0, 1) := by decide +kernel
theorem dX2_begin_14 : decode cX2_begin 14 = .ok (.invokevirtual 36, 3) := by decide +kernel
theorem dX2_begin_17 : decode cX2_begin 17 = .ok (.return_, 1) := by decide +kernel
theorem dX2_isDevice_0 : decode cX2_isDevice 0 = .ok (.iload_n 1, 1) := by decide +kernel
theorem dX2_isDevice_1 : decode cX2_isDevice 1 = .ok (.ifCond .lt 24, 3) := by decide +kernel
theorem dX2_isDevice_4 : decode cX2_isDevice 4 = .ok (.iload_n 1, 1) := by decide +kernel
theorem dX2_isDevice_5 : decode cX2_isDevice 5 = .ok (.aload_n 0, 1) := by decide +kernel
theorem dX2_isDevice_6 : decode cX2_isDevice 6 = .ok (.getfield 12, 3) := by decide +kernel
theorem dX2_isDevice_9 : decode cX2_isDevice 9 = .ok (.getfield 39, 3) := by decide +kernel
theorem dX2_isDevice_12 : decode cX2_isDevice 12 = .ok (.if_icmp .ge 13, 3) := by decide +kernel
theorem dX2_isDevice_15 : decode cX2_isDevice 15 = .ok (.iload_n 1, 1) := by decide +kernel
theorem dX2_isDevice_16 : decode cX2_isDevice 16 = .ok (.bipush 8, 2) := by decide +kernel
theorem dX2_isDevice_18 : decode cX2_isDevice 18 = .ok (.if_icmp .ge 7, 3) := by decide +kernel
theorem dX2_isDevice_21 : decode cX2_isDevice 21 = .ok (.iconst 1, 1) := by decide +kernel
theorem dX2_isDevice_22 : decode cX2_isDevice 22 = .ok (.goto 4, 3) := by decide +kernel
theorem dX2_isDevice_25 : decode cX2_isDevice 25 = .ok (.iconst 0, 1) := by decide +kernel
theorem dX2_isDevice_26 : decode cX2_isDevice 26 = .ok (.ireturn, 1) := by decide +kernel
theorem dX2_isPluggedIn_0 : decode cX2_isPluggedIn 0 = .ok (.aload_n 0, 1) := by decide +kernel
theorem dX2_isPluggedIn_1 : decode cX2_isPluggedIn 1 = .ok (.iload_n 1, 1) := by decide +kernel
theorem dX2_isPluggedIn_2 : decode cX2_isPluggedIn 2 = .ok (.invokevirtual 42, 3) := by decide +kernel
theorem dX2_isPluggedIn_5 : decode cX2_isPluggedIn 5 = .ok (.ifCond .eq 20, 3) := by decide +kernel
theorem dX2_isPluggedIn_8 : decode cX2_isPluggedIn 8 = .ok (.aload_n 0, 1) := by decide +kernel
theorem dX2_isPluggedIn_9 : decode cX2_isPluggedIn 9 = .ok (.getfield 21, 3) := by decide +kernel
theorem dX2_isPluggedIn_12 : decode cX2_isPluggedIn 12 = .ok (.getfield 46, 3) := by decide +kernel
theorem dX2_isPluggedIn_15 : decode cX2_isPluggedIn 15 = .ok (.iload_n 1, 1) := by decide +kernel
theorem dX2_isPluggedIn_16 : decode cX2_isPluggedIn 16 = .ok (.iaload, 1) := by decide +kernel
theorem dX2_isPluggedIn_17 : decode cX2_isPluggedIn 17 = .ok (.iconst (-1), 1) := by decide +kernel
theorem dX2_isPluggedIn_18 : decode cX2_isPluggedIn 18 = .ok (.if_icmp .eq 7, 3) := by decide +kernel
theorem dX2_isPluggedIn_21 : decode cX2_isPluggedIn 21 = .ok (.iconst 1, 1) := by decide +kernel
theorem dX2_isPluggedIn_22 : decode cX2_isPluggedIn 22 = .ok (.goto 4, 3) := by decide +kernel
theorem dX2_isPluggedIn_25 : decode cX2_isPluggedIn 25 = .ok (.iconst 0, 1) := by decide +kernel
theorem dX2_isPluggedIn_26 : decode cX2_isPluggedIn 26 = .ok (.ireturn, 1) := by decide +kernel
theorem dX2_inAlarm_0 : decode cX2_inAlarm 0 = .ok (.aload_n 0, 1) := by decide +kernel
theorem dX2_inAlarm_1 : decode cX2_inAlarm 1 = .ok (.iload_n 1, 1) := by decide +kernel
theorem dX2_inAlarm_2 : decode cX2_inAlarm 2 = .ok (.invokevirtual 42, 3) := by decide +kernel
theorem dX2_inAlarm_5 : decode cX2_inAlarm 5 = .ok (.ifCond .eq 20, 3) := by decide +kernel
theorem dX2_inAlarm_8 : decode cX2_inAlarm 8 = .ok (.aload_n 0, 1) := by decide +kernel
theorem dX2_inAlarm_9 : decode cX2_inAlarm 9 = .ok (.getfield 21, 3) := by decide +kernel
theorem dX2_inAlarm_12 : decode cX2_inAlarm 12 = .ok (.getfield 50, 3) := by decide +kernel
theorem dX2_inAlarm_15 : decode cX2_inAlarm 15 = .ok (.iload_n 1, 1) := by decide +kernel
theorem dX2_inAlarm_16 : decode cX2_inAlarm 16 = .ok (.iaload, 1) := by decide +kernel
theorem dX2_inAlarm_17 : decode cX2_inAlarm 17 = .ok (.iconst (-1), 1) := by decide +kernel
theorem dX2_inAlarm_18 : decode cX2_inAlarm 18 = .ok (.if_icmp .eq 7, 3) := by decide +kernel
theorem dX2_inAlarm_21 : decode cX2_inAlarm 21 = .ok (.iconst 1, 1) := by decide +kernel
theorem dX2_inAlarm_22 : decode cX2_inAlarm 22 = .ok (.goto 4, 3) := by decide +kernel
theorem dX2_inAlarm_25 : decode cX2_inAlarm 25 = .ok (.iconst 0, 1) := by decide +kernel
theorem dX2_inAlarm_26 : decode cX2_inAlarm 26 = .ok (.ireturn, 1) := by decide +kernel
theorem dX2_canHold_0 : decode cX2_canHold 0 = .ok (.aload_n 0, 1) := by decide +kernel
theorem dX2_canHold_1 : decode cX2_canHold 1 = .ok (.iload_n 1, 1) := by decide +kernel
theorem dX2_canHold_2 : decode cX2_canHold 2 = .ok (.invokevirtual 42, 3) := by decide +kernel
theorem dX2_canHold_5 : decode cX2_canHold 5 = .ok (.ifCond .eq 33, 3) := by decide +kernel
theorem dX2_canHold_8 : decode cX2_canHold 8 = .ok (.aload_n 0, 1) := by decide +kernel
theorem dX2_canHold_9 : decode cX2_canHold 9 = .ok (.getfield 21, 3) := by decide +kernel
theorem dX2_canHold_12 : decode cX2_canHold 12 = .ok (.getfield 46, 3) := by decide +kernel
theorem dX2_canHold_15 : decode cX2_canHold 15 = .ok (.iload_n 1, 1) := by decide +kernel
theorem dX2_canHold_16 : decode cX2_canHold 16 = .ok (.iaload, 1) := by decide +kernel
theorem dX2_canHold_17 : decode cX2_canHold 17 = .ok (.iconst (-1), 1) := by decide +kernel
theorem dX2_canHold_18 : decode cX2_canHold 18 = .ok (.if_icmp .eq 20, 3) := by decide +kernel
theorem dX2_canHold_21 : decode cX2_canHold 21 = .ok (.aload_n 0, 1) := by decide +kernel
theorem dX2_canHold_22 : decode cX2_canHold 22 = .ok (.getfield 21, 3) := by decide +kernel
theorem dX2_canHold_25 : decode cX2_canHold 25 = .ok (.getfield 50, 3) := by decide +kernel
theorem dX2_canHold_28 : decode cX2_canHold 28 = .ok (.iload_n 1, 1) := by decide +kernel
theorem dX2_canHold_29 : decode cX2_canHold 29 = .ok (.iaload, 1) := by decide +kernel
theorem dX2_canHold_30 : decode cX2_canHold 30 = .ok (.iconst (-1), 1) := by decide +kernel
theorem dX2_canHold_31 : decode cX2_canHold 31 = .ok (.if_icmp .ne 7, 3) := by decide +kernel
theorem dX2_canHold_34 : decode cX2_canHold 34 = .ok (.iconst 1, 1) := by decide +kernel
theorem dX2_canHold_35 : decode cX2_canHold 35 = .ok (.goto 4, 3) := by decide +kernel
theorem dX2_canHold_38 : decode cX2_canHold 38 = .ok (.iconst 0, 1) := by decide +kernel
theorem dX2_canHold_39 : decode cX2_canHold 39 = .ok (.ireturn, 1) := by decide +kernel
theorem dX2_pluggedInAt_0 : decode cX2_pluggedInAt 0 = .ok (.iconst 0, 1) := by decide +kernel
theorem dX2_pluggedInAt_1 : decode cX2_pluggedInAt 1 = .ok (.istore_n 2, 1) := by decide +kernel
theorem dX2_pluggedInAt_2 : decode cX2_pluggedInAt 2 = .ok (.iload_n 2, 1) := by decide +kernel
theorem dX2_pluggedInAt_3 : decode cX2_pluggedInAt 3 = .ok (.aload_n 0, 1) := by decide +kernel
theorem dX2_pluggedInAt_4 : decode cX2_pluggedInAt 4 = .ok (.getfield 12, 3) := by decide +kernel
theorem dX2_pluggedInAt_7 : decode cX2_pluggedInAt 7 = .ok (.getfield 39, 3) := by decide +kernel
theorem dX2_pluggedInAt_10 : decode cX2_pluggedInAt 10 = .ok (.if_icmp .ge 24, 3) := by decide +kernel
theorem dX2_pluggedInAt_13 : decode cX2_pluggedInAt 13 = .ok (.aload_n 0, 1) := by decide +kernel
theorem dX2_pluggedInAt_14 : decode cX2_pluggedInAt 14 = .ok (.getfield 21, 3) := by decide +kernel
theorem dX2_pluggedInAt_17 : decode cX2_pluggedInAt 17 = .ok (.getfield 46, 3) := by decide +kernel
theorem dX2_pluggedInAt_20 : decode cX2_pluggedInAt 20 = .ok (.iload_n 2, 1) := by decide +kernel
theorem dX2_pluggedInAt_21 : decode cX2_pluggedInAt 21 = .ok (.iaload, 1) := by decide +kernel
theorem dX2_pluggedInAt_22 : decode cX2_pluggedInAt 22 = .ok (.iload_n 1, 1) := by decide +kernel
theorem dX2_pluggedInAt_23 : decode cX2_pluggedInAt 23 = .ok (.if_icmp .ne 5, 3) := by decide +kernel
theorem dX2_pluggedInAt_26 : decode cX2_pluggedInAt 26 = .ok (.iload_n 2, 1) := by decide +kernel
theorem dX2_pluggedInAt_27 : decode cX2_pluggedInAt 27 = .ok (.ireturn, 1) := by decide +kernel
theorem dX2_pluggedInAt_28 : decode cX2_pluggedInAt 28 = .ok (.iinc 2 1, 3) := by decide +kernel
theorem dX2_pluggedInAt_31 : decode cX2_pluggedInAt 31 = .ok (.goto (-29), 3) := by decide +kernel
theorem dX2_pluggedInAt_34 : decode cX2_pluggedInAt 34 = .ok (.iconst (-1), 1) := by decide +kernel
theorem dX2_pluggedInAt_35 : decode cX2_pluggedInAt 35 = .ok (.ireturn, 1) := by decide +kernel
theorem dX2_heldBits_0 : decode cX2_heldBits 0 = .ok (.iconst 0, 1) := by decide +kernel
theorem dX2_heldBits_1 : decode cX2_heldBits 1 = .ok (.istore_n 2, 1) := by decide +kernel
theorem dX2_heldBits_2 : decode cX2_heldBits 2 = .ok (.iconst 0, 1) := by decide +kernel
theorem dX2_heldBits_3 : decode cX2_heldBits 3 = .ok (.istore_n 3, 1) := by decide +kernel
theorem dX2_heldBits_4 : decode cX2_heldBits 4 = .ok (.iload_n 3, 1) := by decide +kernel
theorem dX2_heldBits_5 : decode cX2_heldBits 5 = .ok (.aload_n 0, 1) := by decide +kernel
theorem dX2_heldBits_6 : decode cX2_heldBits 6 = .ok (.getfield 12, 3) := by decide +kernel
theorem dX2_heldBits_9 : decode cX2_heldBits 9 = .ok (.getfield 53, 3) := by decide +kernel
theorem dX2_heldBits_12 : decode cX2_heldBits 12 = .ok (.if_icmp .ge 28, 3) := by decide +kernel
theorem dX2_heldBits_15 : decode cX2_heldBits 15 = .ok (.aload_n 0, 1) := by decide +kernel
theorem dX2_heldBits_16 : decode cX2_heldBits 16 = .ok (.getfield 21, 3) := by decide +kernel
theorem dX2_heldBits_19 : decode cX2_heldBits 19 = .ok (.getfield 56, 3) := by decide +kernel
theorem dX2_heldBits_22 : decode cX2_heldBits 22 = .ok (.iload_n 3, 1) := by decide +kernel
theorem dX2_heldBits_23 : decode cX2_heldBits 23 = .ok (.iaload, 1) := by decide +kernel
theorem dX2_heldBits_24 : decode cX2_heldBits 24 = .ok (.iload_n 1, 1) := by decide +kernel
theorem dX2_heldBits_25 : decode cX2_heldBits 25 = .ok (.if_icmp .ne 9, 3) := by decide +kernel
theorem dX2_heldBits_28 : decode cX2_heldBits 28 = .ok (.iload_n 2, 1) := by decide +kernel
theorem dX2_heldBits_29 : decode cX2_heldBits 29 = .ok (.iconst 1, 1) := by decide +kernel
theorem dX2_heldBits_30 : decode cX2_heldBits 30 = .ok (.iload_n 3, 1) := by decide +kernel
theorem dX2_heldBits_31 : decode cX2_heldBits 31 = .ok (.ishl, 1) := by decide +kernel
theorem dX2_heldBits_32 : decode cX2_heldBits 32 = .ok (.ior, 1) := by decide +kernel
theorem dX2_heldBits_33 : decode cX2_heldBits 33 = .ok (.istore_n 2, 1) := by decide +kernel
theorem dX2_heldBits_34 : decode cX2_heldBits 34 = .ok (.iinc 3 1, 3) := by decide +kernel
theorem dX2_heldBits_37 : decode cX2_heldBits 37 = .ok (.goto (-33), 3) := by decide +kernel
theorem dX2_heldBits_40 : decode cX2_heldBits 40 = .ok (.iload_n 2, 1) := by decide +kernel
theorem dX2_heldBits_41 : decode cX2_heldBits 41 = .ok (.ireturn, 1) := by decide +kernel
theorem dX2_reservedFor_0 : decode cX2_reservedFor 0 = .ok (.iconst 0, 1) := by decide +kernel
theorem dX2_reservedFor_1 : decode cX2_reservedFor 1 = .ok (.istore_n 2, 1) := by decide +kernel
theorem dX2_reservedFor_2 : decode cX2_reservedFor 2 = .ok (.iconst 0, 1) := by decide +kernel
theorem dX2_reservedFor_3 : decode cX2_reservedFor 3 = .ok (.istore_n 3, 1) := by decide +kernel
theorem dX2_reservedFor_4 : decode cX2_reservedFor 4 = .ok (.iload_n 3, 1) := by decide +kernel
theorem dX2_reservedFor_5 : decode cX2_reservedFor 5 = .ok (.aload_n 0, 1) := by decide +kernel
theorem dX2_reservedFor_6 : decode cX2_reservedFor 6 = .ok (.getfield 12, 3) := by decide +kernel
theorem dX2_reservedFor_9 : decode cX2_reservedFor 9 = .ok (.getfield 53, 3) := by decide +kernel
theorem dX2_reservedFor_12 : decode cX2_reservedFor 12 = .ok (.if_icmp .ge 34, 3) := by decide +kernel
theorem dX2_reservedFor_15 : decode cX2_reservedFor 15 = .ok (.aload_n 0, 1) := by decide +kernel
theorem dX2_reservedFor_16 : decode cX2_reservedFor 16 = .ok (.getfield 21, 3) := by decide +kernel
theorem dX2_reservedFor_19 : decode cX2_reservedFor 19 = .ok (.getfield 56, 3) := by decide +kernel
theorem dX2_reservedFor_22 : decode cX2_reservedFor 22 = .ok (.iload_n 3, 1) := by decide +kernel
theorem dX2_reservedFor_23 : decode cX2_reservedFor 23 = .ok (.iaload, 1) := by decide +kernel
theorem dX2_reservedFor_24 : decode cX2_reservedFor 24 = .ok (.iload_n 1, 1) := by decide +kernel
theorem dX2_reservedFor_25 : decode cX2_reservedFor 25 = .ok (.if_icmp .ne 15, 3) := by decide +kernel
theorem dX2_reservedFor_28 : decode cX2_reservedFor 28 = .ok (.iload_n 2, 1) := by decide +kernel
theorem dX2_reservedFor_29 : decode cX2_reservedFor 29 = .ok (.aload_n 0, 1) := by decide +kernel
theorem dX2_reservedFor_30 : decode cX2_reservedFor 30 = .ok (.getfield 12, 3) := by decide +kernel
theorem dX2_reservedFor_33 : decode cX2_reservedFor 33 = .ok (.getfield 59, 3) := by decide +kernel
theorem dX2_reservedFor_36 : decode cX2_reservedFor 36 = .ok (.iload_n 3, 1) := by decide +kernel
theorem dX2_reservedFor_37 : decode cX2_reservedFor 37 = .ok (.iaload, 1) := by decide +kernel
theorem dX2_reservedFor_38 : decode cX2_reservedFor 38 = .ok (.iadd, 1) := by decide +kernel
theorem dX2_reservedFor_39 : decode cX2_reservedFor 39 = .ok (.istore_n 2, 1) := by decide +kernel
theorem dX2_reservedFor_40 : decode cX2_reservedFor 40 = .ok (.iinc 3 1, 3) := by decide +kernel
theorem dX2_reservedFor_43 : decode cX2_reservedFor 43 = .ok (.goto (-39), 3) := by decide +kernel
theorem dX2_reservedFor_46 : decode cX2_reservedFor 46 = .ok (.iload_n 2, 1) := by decide +kernel
theorem dX2_reservedFor_47 : decode cX2_reservedFor 47 = .ok (.ireturn, 1) := by decide +kernel
theorem dX2_unitsAtStake_0 : decode cX2_unitsAtStake 0 = .ok (.iconst 0, 1) := by decide +kernel
theorem dX2_unitsAtStake_1 : decode cX2_unitsAtStake 1 = .ok (.istore_n 2, 1) := by decide +kernel
theorem dX2_unitsAtStake_2 : decode cX2_unitsAtStake 2 = .ok (.iconst 0, 1) := by decide +kernel
theorem dX2_unitsAtStake_3 : decode cX2_unitsAtStake 3 = .ok (.istore_n 3, 1) := by decide +kernel
theorem dX2_unitsAtStake_4 : decode cX2_unitsAtStake 4 = .ok (.iload_n 3, 1) := by decide +kernel
theorem dX2_unitsAtStake_5 : decode cX2_unitsAtStake 5 = .ok (.aload_n 0, 1) := by decide +kernel
theorem dX2_unitsAtStake_6 : decode cX2_unitsAtStake 6 = .ok (.getfield 12, 3) := by decide +kernel
theorem dX2_unitsAtStake_9 : decode cX2_unitsAtStake 9 = .ok (.getfield 53, 3) := by decide +kernel
theorem dX2_unitsAtStake_12 : decode cX2_unitsAtStake 12 = .ok (.if_icmp .ge 34, 3) := by decide +kernel
theorem dX2_unitsAtStake_15 : decode cX2_unitsAtStake 15 = .ok (.aload_n 0, 1) := by decide +kernel
theorem dX2_unitsAtStake_16 : decode cX2_unitsAtStake 16 = .ok (.getfield 21, 3) := by decide +kernel
theorem dX2_unitsAtStake_19 : decode cX2_unitsAtStake 19 = .ok (.getfield 56, 3) := by decide +kernel
theorem dX2_unitsAtStake_22 : decode cX2_unitsAtStake 22 = .ok (.iload_n 3, 1) := by decide +kernel
theorem dX2_unitsAtStake_23 : decode cX2_unitsAtStake 23 = .ok (.iaload, 1) := by decide +kernel
theorem dX2_unitsAtStake_24 : decode cX2_unitsAtStake 24 = .ok (.iload_n 1, 1) := by decide +kernel
theorem dX2_unitsAtStake_25 : decode cX2_unitsAtStake 25 = .ok (.if_icmp .ne 15, 3) := by decide +kernel
theorem dX2_unitsAtStake_28 : decode cX2_unitsAtStake 28 = .ok (.iload_n 2, 1) := by decide +kernel
theorem dX2_unitsAtStake_29 : decode cX2_unitsAtStake 29 = .ok (.aload_n 0, 1) := by decide +kernel
theorem dX2_unitsAtStake_30 : decode cX2_unitsAtStake 30 = .ok (.getfield 21, 3) := by decide +kernel
theorem dX2_unitsAtStake_33 : decode cX2_unitsAtStake 33 = .ok (.getfield 62, 3) := by decide +kernel
theorem dX2_unitsAtStake_36 : decode cX2_unitsAtStake 36 = .ok (.iload_n 3, 1) := by decide +kernel
theorem dX2_unitsAtStake_37 : decode cX2_unitsAtStake 37 = .ok (.iaload, 1) := by decide +kernel
theorem dX2_unitsAtStake_38 : decode cX2_unitsAtStake 38 = .ok (.iadd, 1) := by decide +kernel
theorem dX2_unitsAtStake_39 : decode cX2_unitsAtStake 39 = .ok (.istore_n 2, 1) := by decide +kernel
theorem dX2_unitsAtStake_40 : decode cX2_unitsAtStake 40 = .ok (.iinc 3 1, 3) := by decide +kernel
theorem dX2_unitsAtStake_43 : decode cX2_unitsAtStake 43 = .ok (.goto (-39), 3) := by decide +kernel
theorem dX2_unitsAtStake_46 : decode cX2_unitsAtStake 46 = .ok (.iload_n 2, 1) := by decide +kernel
theorem dX2_unitsAtStake_47 : decode cX2_unitsAtStake 47 = .ok (.ireturn, 1) := by decide +kernel
theorem dX2_clearingFrames_0 : decode cX2_clearingFrames 0 = .ok (.iconst 0, 1) := by decide +kernel
theorem dX2_clearingFrames_1 : decode cX2_clearingFrames 1 = .ok (.istore_n 2, 1) := by decide +kernel
theorem dX2_clearingFrames_2 : decode cX2_clearingFrames 2 = .ok (.iconst 0, 1) := by decide +kernel
theorem dX2_clearingFrames_3 : decode cX2_clearingFrames 3 = .ok (.istore_n 3, 1) := by decide +kernel
theorem dX2_clearingFrames_4 : decode cX2_clearingFrames 4 = .ok (.iload_n 3, 1) := by decide +kernel
theorem dX2_clearingFrames_5 : decode cX2_clearingFrames 5 = .ok (.aload_n 0, 1) := by decide +kernel
theorem dX2_clearingFrames_6 : decode cX2_clearingFrames 6 = .ok (.getfield 12, 3) := by decide +kernel
theorem dX2_clearingFrames_9 : decode cX2_clearingFrames 9 = .ok (.getfield 53, 3) := by decide +kernel
theorem dX2_clearingFrames_12 : decode cX2_clearingFrames 12 = .ok (.if_icmp .ge 44, 3) := by decide +kernel
theorem dX2_clearingFrames_15 : decode cX2_clearingFrames 15 = .ok (.aload_n 0, 1) := by decide +kernel
theorem dX2_clearingFrames_16 : decode cX2_clearingFrames 16 = .ok (.getfield 21, 3) := by decide +kernel
theorem dX2_clearingFrames_19 : decode cX2_clearingFrames 19 = .ok (.getfield 56, 3) := by decide +kernel
theorem dX2_clearingFrames_22 : decode cX2_clearingFrames 22 = .ok (.iload_n 3, 1) := by decide +kernel
theorem dX2_clearingFrames_23 : decode cX2_clearingFrames 23 = .ok (.iaload, 1) := by decide +kernel
theorem dX2_clearingFrames_24 : decode cX2_clearingFrames 24 = .ok (.iload_n 1, 1) := by decide +kernel
theorem dX2_clearingFrames_25 : decode cX2_clearingFrames 25 = .ok (.if_icmp .ne 25, 3) := by decide +kernel
theorem dX2_clearingFrames_28 : decode cX2_clearingFrames 28 = .ok (.aload_n 0, 1) := by decide +kernel
theorem dX2_clearingFrames_29 : decode cX2_clearingFrames 29 = .ok (.getfield 21, 3) := by decide +kernel
theorem dX2_clearingFrames_32 : decode cX2_clearingFrames 32 = .ok (.getfield 62, 3) := by decide +kernel
theorem dX2_clearingFrames_35 : decode cX2_clearingFrames 35 = .ok (.iload_n 3, 1) := by decide +kernel
theorem dX2_clearingFrames_36 : decode cX2_clearingFrames 36 = .ok (.iaload, 1) := by decide +kernel
theorem dX2_clearingFrames_37 : decode cX2_clearingFrames 37 = .ok (.ifCond .le 13, 3) := by decide +kernel
theorem dX2_clearingFrames_40 : decode cX2_clearingFrames 40 = .ok (.iload_n 2, 1) := by decide +kernel
theorem dX2_clearingFrames_41 : decode cX2_clearingFrames 41 = .ok (.aload_n 0, 1) := by decide +kernel
theorem dX2_clearingFrames_42 : decode cX2_clearingFrames 42 = .ok (.iload_n 3, 1) := by decide +kernel
theorem dX2_clearingFrames_43 : decode cX2_clearingFrames 43 = .ok (.invokevirtual 65, 3) := by decide +kernel
theorem dX2_clearingFrames_46 : decode cX2_clearingFrames 46 = .ok (.invokestatic 69, 3) := by decide +kernel
theorem dX2_clearingFrames_49 : decode cX2_clearingFrames 49 = .ok (.istore_n 2, 1) := by decide +kernel
theorem dX2_clearingFrames_50 : decode cX2_clearingFrames 50 = .ok (.iinc 3 1, 3) := by decide +kernel
theorem dX2_clearingFrames_53 : decode cX2_clearingFrames 53 = .ok (.goto (-49), 3) := by decide +kernel
theorem dX2_clearingFrames_56 : decode cX2_clearingFrames 56 = .ok (.iload_n 2, 1) := by decide +kernel
theorem dX2_clearingFrames_57 : decode cX2_clearingFrames 57 = .ok (.ireturn, 1) := by decide +kernel
theorem dX2_framesToPacketEnd_0 : decode cX2_framesToPacketEnd 0 = .ok (.aload_n 0, 1) := by decide +kernel
theorem dX2_framesToPacketEnd_1 : decode cX2_framesToPacketEnd 1 = .ok (.getfield 12, 3) := by decide +kernel
theorem dX2_framesToPacketEnd_4 : decode cX2_framesToPacketEnd 4 = .ok (.getfield 59, 3) := by decide +kernel
theorem dX2_framesToPacketEnd_7 : decode cX2_framesToPacketEnd 7 = .ok (.iload_n 1, 1) := by decide +kernel
theorem dX2_framesToPacketEnd_8 : decode cX2_framesToPacketEnd 8 = .ok (.iaload, 1) := by decide +kernel
theorem dX2_framesToPacketEnd_9 : decode cX2_framesToPacketEnd 9 = .ok (.istore_n 2, 1) := by decide +kernel
theorem dX2_framesToPacketEnd_10 : decode cX2_framesToPacketEnd 10 = .ok (.aload_n 0, 1) := by decide +kernel
theorem dX2_framesToPacketEnd_11 : decode cX2_framesToPacketEnd 11 = .ok (.getfield 12, 3) := by decide +kernel
theorem dX2_framesToPacketEnd_14 : decode cX2_framesToPacketEnd 14 = .ok (.getfield 75, 3) := by decide +kernel
theorem dX2_framesToPacketEnd_17 : decode cX2_framesToPacketEnd 17 = .ok (.iload_n 1, 1) := by decide +kernel
theorem dX2_framesToPacketEnd_18 : decode cX2_framesToPacketEnd 18 = .ok (.iaload, 1) := by decide +kernel
theorem dX2_framesToPacketEnd_19 : decode cX2_framesToPacketEnd 19 = .ok (.aload_n 0, 1) := by decide +kernel
theorem dX2_framesToPacketEnd_20 : decode cX2_framesToPacketEnd 20 = .ok (.getfield 21, 3) := by decide +kernel
theorem dX2_framesToPacketEnd_23 : decode cX2_framesToPacketEnd 23 = .ok (.getfield 62, 3) := by decide +kernel
theorem dX2_framesToPacketEnd_26 : decode cX2_framesToPacketEnd 26 = .ok (.iload_n 1, 1) := by decide +kernel
theorem dX2_framesToPacketEnd_27 : decode cX2_framesToPacketEnd 27 = .ok (.iaload, 1) := by decide +kernel
theorem dX2_framesToPacketEnd_28 : decode cX2_framesToPacketEnd 28 = .ok (.isub, 1) := by decide +kernel
theorem dX2_framesToPacketEnd_29 : decode cX2_framesToPacketEnd 29 = .ok (.istore_n 3, 1) := by decide +kernel
theorem dX2_framesToPacketEnd_30 : decode cX2_framesToPacketEnd 30 = .ok (.iload_n 2, 1) := by decide +kernel
theorem dX2_framesToPacketEnd_31 : decode cX2_framesToPacketEnd 31 = .ok (.ifCond .le 13, 3) := by decide +kernel
theorem dX2_framesToPacketEnd_34 : decode cX2_framesToPacketEnd 34 = .ok (.iload_n 3, 1) := by decide +kernel
theorem dX2_framesToPacketEnd_35 : decode cX2_framesToPacketEnd 35 = .ok (.iload_n 2, 1) := by decide +kernel
theorem dX2_framesToPacketEnd_36 : decode cX2_framesToPacketEnd 36 = .ok (.iadd, 1) := by decide +kernel
theorem dX2_framesToPacketEnd_37 : decode cX2_framesToPacketEnd 37 = .ok (.iconst 1, 1) := by decide +kernel
theorem dX2_framesToPacketEnd_38 : decode cX2_framesToPacketEnd 38 = .ok (.isub, 1) := by decide +kernel
theorem dX2_framesToPacketEnd_39 : decode cX2_framesToPacketEnd 39 = .ok (.iload_n 2, 1) := by decide +kernel
theorem dX2_framesToPacketEnd_40 : decode cX2_framesToPacketEnd 40 = .ok (.idiv, 1) := by decide +kernel
theorem dX2_framesToPacketEnd_41 : decode cX2_framesToPacketEnd 41 = .ok (.goto 4, 3) := by decide +kernel
theorem dX2_framesToPacketEnd_44 : decode cX2_framesToPacketEnd 44 = .ok (.iconst 0, 1) := by decide +kernel
theorem dX2_framesToPacketEnd_45 : decode cX2_framesToPacketEnd 45 = .ok (.ireturn, 1) := by decide +kernel
theorem dX2_weakestDevice_0 : decode cX2_weakestDevice 0 = .ok (.iconst (-1), 1) := by decide +kernel
theorem dX2_weakestDevice_1 : decode cX2_weakestDevice 1 = .ok (.istore_n 1, 1) := by decide +kernel
theorem dX2_weakestDevice_2 : decode cX2_weakestDevice 2 = .ok (.iconst (-1), 1) := by decide +kernel
theorem dX2_weakestDevice_3 : decode cX2_weakestDevice 3 = .ok (.istore_n 2, 1) := by decide +kernel
theorem dX2_weakestDevice_4 : decode cX2_weakestDevice 4 = .ok (.iconst 0, 1) := by decide +kernel
theorem dX2_weakestDevice_5 : decode cX2_weakestDevice 5 = .ok (.istore_n 3, 1) := by decide +kernel
theorem dX2_weakestDevice_6 : decode cX2_weakestDevice 6 = .ok (.iload_n 3, 1) := by decide +kernel
theorem dX2_weakestDevice_7 : decode cX2_weakestDevice 7 = .ok (.aload_n 0, 1) := by decide +kernel
theorem dX2_weakestDevice_8 : decode cX2_weakestDevice 8 = .ok (.getfield 12, 3) := by decide +kernel
theorem dX2_weakestDevice_11 : decode cX2_weakestDevice 11 = .ok (.getfield 39, 3) := by decide +kernel
theorem dX2_weakestDevice_14 : decode cX2_weakestDevice 14 = .ok (.if_icmp .ge 36, 3) := by decide +kernel
theorem dX2_weakestDevice_17 : decode cX2_weakestDevice 17 = .ok (.aload_n 0, 1) := by decide +kernel
theorem dX2_weakestDevice_18 : decode cX2_weakestDevice 18 = .ok (.iload_n 3, 1) := by decide +kernel
theorem dX2_weakestDevice_19 : decode cX2_weakestDevice 19 = .ok (.invokevirtual 78, 3) := by decide +kernel
theorem dX2_weakestDevice_22 : decode cX2_weakestDevice 22 = .ok (.ifCond .eq 22, 3) := by decide +kernel
theorem dX2_weakestDevice_25 : decode cX2_weakestDevice 25 = .ok (.aload_n 0, 1) := by decide +kernel
theorem dX2_weakestDevice_26 : decode cX2_weakestDevice 26 = .ok (.iload_n 3, 1) := by decide +kernel
theorem dX2_weakestDevice_27 : decode cX2_weakestDevice 27 = .ok (.iconst (-1), 1) := by decide +kernel
theorem dX2_weakestDevice_28 : decode cX2_weakestDevice 28 = .ok (.invokevirtual 81, 3) := by decide +kernel
theorem dX2_weakestDevice_31 : decode cX2_weakestDevice 31 = .ok (.iload_n 2, 1) := by decide +kernel
theorem dX2_weakestDevice_32 : decode cX2_weakestDevice 32 = .ok (.if_icmp .le 12, 3) := by decide +kernel
theorem dX2_weakestDevice_35 : decode cX2_weakestDevice 35 = .ok (.iload_n 3, 1) := by decide +kernel
theorem dX2_weakestDevice_36 : decode cX2_weakestDevice 36 = .ok (.istore_n 1, 1) := by decide +kernel
theorem dX2_weakestDevice_37 : decode cX2_weakestDevice 37 = .ok (.aload_n 0, 1) := by decide +kernel
theorem dX2_weakestDevice_38 : decode cX2_weakestDevice 38 = .ok (.iload_n 3, 1) := by decide +kernel
theorem dX2_weakestDevice_39 : decode cX2_weakestDevice 39 = .ok (.iconst (-1), 1) := by decide +kernel
theorem dX2_weakestDevice_40 : decode cX2_weakestDevice 40 = .ok (.invokevirtual 81, 3) := by decide +kernel
theorem dX2_weakestDevice_43 : decode cX2_weakestDevice 43 = .ok (.istore_n 2, 1) := by decide +kernel
theorem dX2_weakestDevice_44 : decode cX2_weakestDevice 44 = .ok (.iinc 3 1, 3) := by decide +kernel
theorem dX2_weakestDevice_47 : decode cX2_weakestDevice 47 = .ok (.goto (-41), 3) := by decide +kernel
theorem dX2_weakestDevice_50 : decode cX2_weakestDevice 50 = .ok (.iload_n 1, 1) := by decide +kernel
theorem dX2_weakestDevice_51 : decode cX2_weakestDevice 51 = .ok (.ireturn, 1) := by decide +kernel
theorem dX2_scoreOf_0 : decode cX2_scoreOf 0 = .ok (.aload_n 0, 1) := by decide +kernel
theorem dX2_scoreOf_1 : decode cX2_scoreOf 1 = .ok (.iload_n 1, 1) := by decide +kernel
theorem dX2_scoreOf_2 : decode cX2_scoreOf 2 = .ok (.iload_n 2, 1) := by decide +kernel
theorem dX2_scoreOf_3 : decode cX2_scoreOf 3 = .ok (.invokevirtual 84, 3) := by decide +kernel
theorem dX2_scoreOf_6 : decode cX2_scoreOf 6 = .ok (.istore_n 3, 1) := by decide +kernel
theorem dX2_scoreOf_7 : decode cX2_scoreOf 7 = .ok (.iconst 0, 1) := by decide +kernel
theorem dX2_scoreOf_8 : decode cX2_scoreOf 8 = .ok (.istore 4, 2) := by decide +kernel
theorem dX2_scoreOf_10 : decode cX2_scoreOf 10 = .ok (.iconst 0, 1) := by decide +kernel
theorem dX2_scoreOf_11 : decode cX2_scoreOf 11 = .ok (.istore 5, 2) := by decide +kernel
theorem dX2_scoreOf_13 : decode cX2_scoreOf 13 = .ok (.iload 5, 2) := by decide +kernel
theorem dX2_scoreOf_15 : decode cX2_scoreOf 15 = .ok (.aload_n 0, 1) := by decide +kernel
theorem dX2_scoreOf_16 : decode cX2_scoreOf 16 = .ok (.getfield 12, 3) := by decide +kernel
theorem dX2_scoreOf_19 : decode cX2_scoreOf 19 = .ok (.getfield 87, 3) := by decide +kernel
theorem dX2_scoreOf_22 : decode cX2_scoreOf 22 = .ok (.if_icmp .ge 34, 3) := by decide +kernel
theorem dX2_scoreOf_25 : decode cX2_scoreOf 25 = .ok (.iload_n 3, 1) := by decide +kernel
theorem dX2_scoreOf_26 : decode cX2_scoreOf 26 = .ok (.iload 5, 2) := by decide +kernel
theorem dX2_scoreOf_28 : decode cX2_scoreOf 28 = .ok (.ishr, 1) := by decide +kernel
theorem dX2_scoreOf_29 : decode cX2_scoreOf 29 = .ok (.iconst 1, 1) := by decide +kernel
theorem dX2_scoreOf_30 : decode cX2_scoreOf 30 = .ok (.iand, 1) := by decide +kernel
theorem dX2_scoreOf_31 : decode cX2_scoreOf 31 = .ok (.iconst 1, 1) := by decide +kernel
theorem dX2_scoreOf_32 : decode cX2_scoreOf 32 = .ok (.if_icmp .ne 18, 3) := by decide +kernel
theorem dX2_scoreOf_35 : decode cX2_scoreOf 35 = .ok (.iload 4, 2) := by decide +kernel
theorem dX2_scoreOf_37 : decode cX2_scoreOf 37 = .ok (.aload_n 0, 1) := by decide +kernel
theorem dX2_scoreOf_38 : decode cX2_scoreOf 38 = .ok (.getfield 12, 3) := by decide +kernel
theorem dX2_scoreOf_41 : decode cX2_scoreOf 41 = .ok (.getfield 90, 3) := by decide +kernel
theorem dX2_scoreOf_44 : decode cX2_scoreOf 44 = .ok (.iload 5, 2) := by decide +kernel
theorem dX2_scoreOf_46 : decode cX2_scoreOf 46 = .ok (.iaload, 1) := by decide +kernel
theorem dX2_scoreOf_47 : decode cX2_scoreOf 47 = .ok (.iadd, 1) := by decide +kernel
theorem dX2_scoreOf_48 : decode cX2_scoreOf 48 = .ok (.istore 4, 2) := by decide +kernel
theorem dX2_scoreOf_50 : decode cX2_scoreOf 50 = .ok (.iinc 5 1, 3) := by decide +kernel
theorem dX2_scoreOf_53 : decode cX2_scoreOf 53 = .ok (.goto (-40), 3) := by decide +kernel
theorem dX2_scoreOf_56 : decode cX2_scoreOf 56 = .ok (.iload 4, 2) := by decide +kernel
theorem dX2_scoreOf_58 : decode cX2_scoreOf 58 = .ok (.ireturn, 1) := by decide +kernel
theorem dX2_matchingBits_0 : decode cX2_matchingBits 0 = .ok (.iconst 0, 1) := by decide +kernel
theorem dX2_matchingBits_1 : decode cX2_matchingBits 1 = .ok (.istore_n 3, 1) := by decide +kernel
theorem dX2_matchingBits_2 : decode cX2_matchingBits 2 = .ok (.iconst 0, 1) := by decide +kernel
theorem dX2_matchingBits_3 : decode cX2_matchingBits 3 = .ok (.istore 4, 2) := by decide +kernel
theorem dX2_matchingBits_5 : decode cX2_matchingBits 5 = .ok (.iload 4, 2) := by decide +kernel
theorem dX2_matchingBits_7 : decode cX2_matchingBits 7 = .ok (.aload_n 0, 1) := by decide +kernel
theorem dX2_matchingBits_8 : decode cX2_matchingBits 8 = .ok (.getfield 12, 3) := by decide +kernel
theorem dX2_matchingBits_11 : decode cX2_matchingBits 11 = .ok (.getfield 87, 3) := by decide +kernel
theorem dX2_matchingBits_14 : decode cX2_matchingBits 14 = .ok (.if_icmp .ge 27, 3) := by decide +kernel
theorem dX2_matchingBits_17 : decode cX2_matchingBits 17 = .ok (.aload_n 0, 1) := by decide +kernel
theorem dX2_matchingBits_18 : decode cX2_matchingBits 18 = .ok (.iload 4, 2) := by decide +kernel
theorem dX2_matchingBits_20 : decode cX2_matchingBits 20 = .ok (.iload_n 1, 1) := by decide +kernel
theorem dX2_matchingBits_21 : decode cX2_matchingBits 21 = .ok (.iload_n 2, 1) := by decide +kernel
theorem dX2_matchingBits_22 : decode cX2_matchingBits 22 = .ok (.invokevirtual 93, 3) := by decide +kernel
theorem dX2_matchingBits_25 : decode cX2_matchingBits 25 = .ok (.ifCond .eq 10, 3) := by decide +kernel
theorem dX2_matchingBits_28 : decode cX2_matchingBits 28 = .ok (.iload_n 3, 1) := by decide +kernel
theorem dX2_matchingBits_29 : decode cX2_matchingBits 29 = .ok (.iconst 1, 1) := by decide +kernel
theorem dX2_matchingBits_30 : decode cX2_matchingBits 30 = .ok (.iload 4, 2) := by decide +kernel
theorem dX2_matchingBits_32 : decode cX2_matchingBits 32 = .ok (.ishl, 1) := by decide +kernel
theorem dX2_matchingBits_33 : decode cX2_matchingBits 33 = .ok (.ior, 1) := by decide +kernel
theorem dX2_matchingBits_34 : decode cX2_matchingBits 34 = .ok (.istore_n 3, 1) := by decide +kernel
theorem dX2_matchingBits_35 : decode cX2_matchingBits 35 = .ok (.iinc 4 1, 3) := by decide +kernel
theorem dX2_matchingBits_38 : decode cX2_matchingBits 38 = .ok (.goto (-33), 3) := by decide +kernel
theorem dX2_matchingBits_41 : decode cX2_matchingBits 41 = .ok (.iload_n 3, 1) := by decide +kernel
theorem dX2_matchingBits_42 : decode cX2_matchingBits 42 = .ok (.ireturn, 1) := by decide +kernel
theorem dX2_matches_0 : decode cX2_matches 0 = .ok (.aload_n 0, 1) := by decide +kernel
theorem dX2_matches_1 : decode cX2_matches 1 = .ok (.iload_n 2, 1) := by decide +kernel
theorem dX2_matches_2 : decode cX2_matches 2 = .ok (.invokevirtual 42, 3) := by decide +kernel
theorem dX2_matches_5 : decode cX2_matches 5 = .ok (.ifCond .ne 5, 3) := by decide +kernel
theorem dX2_matches_8 : decode cX2_matches 8 = .ok (.iconst 0, 1) := by decide +kernel
theorem dX2_matches_9 : decode cX2_matches 9 = .ok (.ireturn, 1) := by decide +kernel
theorem dX2_matches_10 : decode cX2_matches 10 = .ok (.aload_n 0, 1) := by decide +kernel
theorem dX2_matches_11 : decode cX2_matches 11 = .ok (.getfield 21, 3) := by decide +kernel
theorem dX2_matches_14 : decode cX2_matches 14 = .ok (.getfield 97, 3) := by decide +kernel
theorem dX2_matches_17 : decode cX2_matches 17 = .ok (.aload_n 0, 1) := by decide +kernel
theorem dX2_matches_18 : decode cX2_matches 18 = .ok (.getfield 12, 3) := by decide +kernel
theorem dX2_matches_21 : decode cX2_matches 21 = .ok (.getfield 100, 3) := by decide +kernel
theorem dX2_matches_24 : decode cX2_matches 24 = .ok (.iload_n 1, 1) := by decide +kernel
theorem dX2_matches_25 : decode cX2_matches 25 = .ok (.iaload, 1) := by decide +kernel
theorem dX2_matches_26 : decode cX2_matches 26 = .ok (.isub, 1) := by decide +kernel
theorem dX2_matches_27 : decode cX2_matches 27 = .ok (.istore 4, 2) := by decide +kernel
theorem dX2_matches_29 : decode cX2_matches 29 = .ok (.iload_n 3, 1) := by decide +kernel
theorem dX2_matches_30 : decode cX2_matches 30 = .ok (.iconst (-1), 1) := by decide +kernel
theorem dX2_matches_31 : decode cX2_matches 31 = .ok (.if_icmp .ne 18, 3) := by decide +kernel
theorem dX2_matches_34 : decode cX2_matches 34 = .ok (.aload_n 0, 1) := by decide +kernel
theorem dX2_matches_35 : decode cX2_matches 35 = .ok (.getfield 21, 3) := by decide +kernel
theorem dX2_matches_38 : decode cX2_matches 38 = .ok (.getfield 103, 3) := by decide +kernel
theorem dX2_matches_41 : decode cX2_matches 41 = .ok (.getfield 107, 3) := by decide +kernel
theorem dX2_matches_44 : decode cX2_matches 44 = .ok (.iload_n 2, 1) := by decide +kernel
theorem dX2_matches_45 : decode cX2_matches 45 = .ok (.iaload, 1) := by decide +kernel
theorem dX2_matches_46 : decode cX2_matches 46 = .ok (.goto 14, 3) := by decide +kernel
theorem dX2_matches_49 : decode cX2_matches 49 = .ok (.aload_n 0, 1) := by decide +kernel
theorem dX2_matches_50 : decode cX2_matches 50 = .ok (.getfield 21, 3) := by decide +kernel
theorem dX2_matches_53 : decode cX2_matches 53 = .ok (.getfield 103, 3) := by decide +kernel
theorem dX2_matches_56 : decode cX2_matches 56 = .ok (.iload_n 2, 1) := by decide +kernel
theorem dX2_matches_57 : decode cX2_matches 57 = .ok (.invokevirtual 112, 3) := by decide +kernel
theorem dX2_matches_60 : decode cX2_matches 60 = .ok (.istore 5, 2) := by decide +kernel
theorem dX2_matches_62 : decode cX2_matches 62 = .ok (.iconst 0, 1) := by decide +kernel
theorem dX2_matches_63 : decode cX2_matches 63 = .ok (.istore 6, 2) := by decide +kernel
theorem dX2_matches_65 : decode cX2_matches 65 = .ok (.iload 5, 2) := by decide +kernel
theorem dX2_matches_67 : decode cX2_matches 67 = .ok (.iconst 1, 1) := by decide +kernel
theorem dX2_matches_68 : decode cX2_matches 68 = .ok (.isub, 1) := by decide +kernel
theorem dX2_matches_69 : decode cX2_matches 69 = .ok (.istore 7, 2) := by decide +kernel
theorem dX2_matches_71 : decode cX2_matches 71 = .ok (.iload 7, 2) := by decide +kernel
theorem dX2_matches_73 : decode cX2_matches 73 = .ok (.ifCond .lt 65, 3) := by decide +kernel
theorem dX2_matches_76 : decode cX2_matches 76 = .ok (.aload_n 0, 1) := by decide +kernel
theorem dX2_matches_77 : decode cX2_matches 77 = .ok (.getfield 21, 3) := by decide +kernel
theorem dX2_matches_80 : decode cX2_matches 80 = .ok (.getfield 103, 3) := by decide +kernel
theorem dX2_matches_83 : decode cX2_matches 83 = .ok (.iload_n 2, 1) := by decide +kernel
theorem dX2_matches_84 : decode cX2_matches 84 = .ok (.iload 7, 2) := by decide +kernel
theorem dX2_matches_86 : decode cX2_matches 86 = .ok (.invokevirtual 115, 3) := by decide +kernel
theorem dX2_matches_89 : decode cX2_matches 89 = .ok (.iload 4, 2) := by decide +kernel
theorem dX2_matches_91 : decode cX2_matches 91 = .ok (.if_icmp .le 7, 3) := by decide +kernel
theorem dX2_matches_94 : decode cX2_matches 94 = .ok (.iconst 1, 1) := by decide +kernel
theorem dX2_matches_95 : decode cX2_matches 95 = .ok (.goto 4, 3) := by decide +kernel
theorem dX2_matches_98 : decode cX2_matches 98 = .ok (.iconst 0, 1) := by decide +kernel
theorem dX2_matches_99 : decode cX2_matches 99 = .ok (.istore 8, 2) := by decide +kernel
theorem dX2_matches_101 : decode cX2_matches 101 = .ok (.iload 8, 2) := by decide +kernel
theorem dX2_matches_103 : decode cX2_matches 103 = .ok (.ifCond .eq 29, 3) := by decide +kernel
theorem dX2_matches_106 : decode cX2_matches 106 = .ok (.aload_n 0, 1) := by decide +kernel
theorem dX2_matches_107 : decode cX2_matches 107 = .ok (.iload_n 1, 1) := by decide +kernel
theorem dX2_matches_108 : decode cX2_matches 108 = .ok (.iload 6, 2) := by decide +kernel
theorem dX2_matches_110 : decode cX2_matches 110 = .ok (.aload_n 0, 1) := by decide +kernel
theorem dX2_matches_111 : decode cX2_matches 111 = .ok (.getfield 21, 3) := by decide +kernel
theorem dX2_matches_114 : decode cX2_matches 114 = .ok (.getfield 103, 3) := by decide +kernel
theorem dX2_matches_117 : decode cX2_matches 117 = .ok (.iload_n 2, 1) := by decide +kernel
theorem dX2_matches_118 : decode cX2_matches 118 = .ok (.iload 7, 2) := by decide +kernel
theorem dX2_matches_120 : decode cX2_matches 120 = .ok (.invokevirtual 118, 3) := by decide +kernel
theorem dX2_matches_123 : decode cX2_matches 123 = .ok (.invokevirtual 121, 3) := by decide +kernel
theorem dX2_matches_126 : decode cX2_matches 126 = .ok (.ifCond .eq 6, 3) := by decide +kernel
theorem dX2_matches_129 : decode cX2_matches 129 = .ok (.iinc 6 1, 3) := by decide +kernel
theorem dX2_matches_132 : decode cX2_matches 132 = .ok (.iinc 7 (-1), 3) := by decide +kernel
theorem dX2_matches_135 : decode cX2_matches 135 = .ok (.goto (-64), 3) := by decide +kernel
theorem dX2_matches_138 : decode cX2_matches 138 = .ok (.iload_n 3, 1) := by decide +kernel
theorem dX2_matches_139 : decode cX2_matches 139 = .ok (.iconst (-1), 1) := by decide +kernel
theorem dX2_matches_140 : decode cX2_matches 140 = .ok (.if_icmp .eq 17, 3) := by decide +kernel
theorem dX2_matches_143 : decode cX2_matches 143 = .ok (.aload_n 0, 1) := by decide +kernel
theorem dX2_matches_144 : decode cX2_matches 144 = .ok (.iload_n 1, 1) := by decide +kernel
theorem dX2_matches_145 : decode cX2_matches 145 = .ok (.iload 6, 2) := by decide +kernel
theorem dX2_matches_147 : decode cX2_matches 147 = .ok (.iload_n 3, 1) := by decide +kernel
theorem dX2_matches_148 : decode cX2_matches 148 = .ok (.invokevirtual 121, 3) := by decide +kernel
theorem dX2_matches_151 : decode cX2_matches 151 = .ok (.ifCond .eq 6, 3) := by decide +kernel
theorem dX2_matches_154 : decode cX2_matches 154 = .ok (.iinc 6 1, 3) := by decide +kernel
theorem dX2_matches_157 : decode cX2_matches 157 = .ok (.iload 6, 2) := by decide +kernel
theorem dX2_matches_159 : decode cX2_matches 159 = .ok (.aload_n 0, 1) := by decide +kernel
theorem dX2_matches_160 : decode cX2_matches 160 = .ok (.getfield 12, 3) := by decide +kernel
theorem dX2_matches_163 : decode cX2_matches 163 = .ok (.getfield 124, 3) := by decide +kernel
theorem dX2_matches_166 : decode cX2_matches 166 = .ok (.iload_n 1, 1) := by decide +kernel
theorem dX2_matches_167 : decode cX2_matches 167 = .ok (.iaload, 1) := by decide +kernel
theorem dX2_matches_168 : decode cX2_matches 168 = .ok (.if_icmp .ne 7, 3) := by decide +kernel
theorem dX2_matches_171 : decode cX2_matches 171 = .ok (.iconst 1, 1) := by decide +kernel
theorem dX2_matches_172 : decode cX2_matches 172 = .ok (.goto 4, 3) := by decide +kernel
theorem dX2_matches_175 : decode cX2_matches 175 = .ok (.iconst 0, 1) := by decide +kernel
theorem dX2_matches_176 : decode cX2_matches 176 = .ok (.ireturn, 1) := by decide +kernel
theorem dX2_isNextOf_0 : decode cX2_isNextOf 0 = .ok (.iload_n 2, 1) := by decide +kernel
theorem dX2_isNextOf_1 : decode cX2_isNextOf 1 = .ok (.aload_n 0, 1) := by decide +kernel
theorem dX2_isNextOf_2 : decode cX2_isNextOf 2 = .ok (.getfield 12, 3) := by decide +kernel
theorem dX2_isNextOf_5 : decode cX2_isNextOf 5 = .ok (.getfield 124, 3) := by decide +kernel
theorem dX2_isNextOf_8 : decode cX2_isNextOf 8 = .ok (.iload_n 1, 1) := by decide +kernel
theorem dX2_isNextOf_9 : decode cX2_isNextOf 9 = .ok (.iaload, 1) := by decide +kernel
theorem dX2_isNextOf_10 : decode cX2_isNextOf 10 = .ok (.if_icmp .ge 29, 3) := by decide +kernel
theorem dX2_isNextOf_13 : decode cX2_isNextOf 13 = .ok (.iload_n 2, 1) := by decide +kernel
theorem dX2_isNextOf_14 : decode cX2_isNextOf 14 = .ok (.iconst 5, 1) := by decide +kernel
theorem dX2_isNextOf_15 : decode cX2_isNextOf 15 = .ok (.if_icmp .ge 24, 3) := by decide +kernel
theorem dX2_isNextOf_18 : decode cX2_isNextOf 18 = .ok (.aload_n 0, 1) := by decide +kernel
theorem dX2_isNextOf_19 : decode cX2_isNextOf 19 = .ok (.getfield 12, 3) := by decide +kernel
theorem dX2_isNextOf_22 : decode cX2_isNextOf 22 = .ok (.getfield 127, 3) := by decide +kernel
theorem dX2_isNextOf_25 : decode cX2_isNextOf 25 = .ok (.iload_n 1, 1) := by decide +kernel
theorem dX2_isNextOf_26 : decode cX2_isNextOf 26 = .ok (.iconst 5, 1) := by decide +kernel
theorem dX2_isNextOf_27 : decode cX2_isNextOf 27 = .ok (.imul, 1) := by decide +kernel
theorem dX2_isNextOf_28 : decode cX2_isNextOf 28 = .ok (.iload_n 2, 1) := by decide +kernel
theorem dX2_isNextOf_29 : decode cX2_isNextOf 29 = .ok (.iadd, 1) := by decide +kernel
theorem dX2_isNextOf_30 : decode cX2_isNextOf 30 = .ok (.iaload, 1) := by decide +kernel
theorem dX2_isNextOf_31 : decode cX2_isNextOf 31 = .ok (.iload_n 3, 1) := by decide +kernel
theorem dX2_isNextOf_32 : decode cX2_isNextOf 32 = .ok (.if_icmp .ne 7, 3) := by decide +kernel
theorem dX2_isNextOf_35 : decode cX2_isNextOf 35 = .ok (.iconst 1, 1) := by decide +kernel
theorem dX2_isNextOf_36 : decode cX2_isNextOf 36 = .ok (.goto 4, 3) := by decide +kernel
theorem dX2_isNextOf_39 : decode cX2_isNextOf 39 = .ok (.iconst 0, 1) := by decide +kernel
theorem dX2_isNextOf_40 : decode cX2_isNextOf 40 = .ok (.ireturn, 1) := by decide +kernel
theorem dX2_fearedKind_0 : decode cX2_fearedKind 0 = .ok (.aload_n 0, 1) := by decide +kernel
theorem dX2_fearedKind_1 : decode cX2_fearedKind 1 = .ok (.iload_n 1, 1) := by decide +kernel
theorem dX2_fearedKind_2 : decode cX2_fearedKind 2 = .ok (.invokevirtual 130, 3) := by decide +kernel
theorem dX2_fearedKind_5 : decode cX2_fearedKind 5 = .ok (.ifCond .ne 5, 3) := by decide +kernel
theorem dX2_fearedKind_8 : decode cX2_fearedKind 8 = .ok (.iconst (-1), 1) := by decide +kernel
theorem dX2_fearedKind_9 : decode cX2_fearedKind 9 = .ok (.ireturn, 1) := by decide +kernel
theorem dX2_fearedKind_10 : decode cX2_fearedKind 10 = .ok (.iconst 0, 1) := by decide +kernel
theorem dX2_fearedKind_11 : decode cX2_fearedKind 11 = .ok (.istore_n 2, 1) := by decide +kernel
theorem dX2_fearedKind_12 : decode cX2_fearedKind 12 = .ok (.iload_n 2, 1) := by decide +kernel
theorem dX2_fearedKind_13 : decode cX2_fearedKind 13 = .ok (.iconst 4, 1) := by decide +kernel
theorem dX2_fearedKind_14 : decode cX2_fearedKind 14 = .ok (.if_icmp .ge 27, 3) := by decide +kernel
theorem dX2_fearedKind_17 : decode cX2_fearedKind 17 = .ok (.aload_n 0, 1) := by decide +kernel
theorem dX2_fearedKind_18 : decode cX2_fearedKind 18 = .ok (.iload_n 1, 1) := by decide +kernel
theorem dX2_fearedKind_19 : decode cX2_fearedKind 19 = .ok (.iload_n 2, 1) := by decide +kernel
theorem dX2_fearedKind_20 : decode cX2_fearedKind 20 = .ok (.invokevirtual 81, 3) := by decide +kernel
theorem dX2_fearedKind_23 : decode cX2_fearedKind 23 = .ok (.aload_n 0, 1) := by decide +kernel
theorem dX2_fearedKind_24 : decode cX2_fearedKind 24 = .ok (.getfield 21, 3) := by decide +kernel
theorem dX2_fearedKind_27 : decode cX2_fearedKind 27 = .ok (.getfield 29, 3) := by decide +kernel
theorem dX2_fearedKind_30 : decode cX2_fearedKind 30 = .ok (.if_icmp .lt 5, 3) := by decide +kernel
theorem dX2_fearedKind_33 : decode cX2_fearedKind 33 = .ok (.iload_n 2, 1) := by decide +kernel
theorem dX2_fearedKind_34 : decode cX2_fearedKind 34 = .ok (.ireturn, 1) := by decide +kernel
theorem dX2_fearedKind_35 : decode cX2_fearedKind 35 = .ok (.iinc 2 1, 3) := by decide +kernel
theorem dX2_fearedKind_38 : decode cX2_fearedKind 38 = .ok (.goto (-26), 3) := by decide +kernel
theorem dX2_fearedKind_41 : decode cX2_fearedKind 41 = .ok (.iconst (-1), 1) := by decide +kernel
theorem dX2_fearedKind_42 : decode cX2_fearedKind 42 = .ok (.ireturn, 1) := by decide +kernel
theorem dX2_takeError_0 : decode cX2_takeError 0 = .ok (.aload_n 0, 1) := by decide +kernel
theorem dX2_takeError_1 : decode cX2_takeError 1 = .ok (.getfield 21, 3) := by decide +kernel
theorem dX2_takeError_4 : decode cX2_takeError 4 = .ok (.getfield 103, 3) := by decide +kernel
theorem dX2_takeError_7 : decode cX2_takeError 7 = .ok (.iload_n 1, 1) := by decide +kernel
theorem dX2_takeError_8 : decode cX2_takeError 8 = .ok (.iload_n 2, 1) := by decide +kernel
theorem dX2_takeError_9 : decode cX2_takeError 9 = .ok (.aload_n 0, 1) := by decide +kernel
theorem dX2_takeError_10 : decode cX2_takeError 10 = .ok (.getfield 21, 3) := by decide +kernel
theorem dX2_takeError_13 : decode cX2_takeError 13 = .ok (.getfield 97, 3) := by decide +kernel
theorem dX2_takeError_16 : decode cX2_takeError 16 = .ok (.invokevirtual 133, 3) := by decide +kernel
theorem dX2_takeError_19 : decode cX2_takeError 19 = .ok (.aload_n 0, 1) := by decide +kernel
theorem dX2_takeError_20 : decode cX2_takeError 20 = .ok (.getfield 21, 3) := by decide +kernel
theorem dX2_takeError_23 : decode cX2_takeError 23 = .ok (.getfield 137, 3) := by decide +kernel
theorem dX2_takeError_26 : decode cX2_takeError 26 = .ok (.getfield 141, 3) := by decide +kernel
theorem dX2_takeError_29 : decode cX2_takeError 29 = .ok (.bipush 9, 2) := by decide +kernel
theorem dX2_takeError_31 : decode cX2_takeError 31 = .ok (.dup2, 1) := by decide +kernel
theorem dX2_takeError_32 : decode cX2_takeError 32 = .ok (.iaload, 1) := by decide +kernel
theorem dX2_takeError_33 : decode cX2_takeError 33 = .ok (.iconst 1, 1) := by decide +kernel
theorem dX2_takeError_34 : decode cX2_takeError 34 = .ok (.iadd, 1) := by decide +kernel
theorem dX2_takeError_35 : decode cX2_takeError 35 = .ok (.iastore, 1) := by decide +kernel
theorem dX2_takeError_36 : decode cX2_takeError 36 = .ok (.aload_n 0, 1) := by decide +kernel
theorem dX2_takeError_37 : decode cX2_takeError 37 = .ok (.iload_n 1, 1) := by decide +kernel
theorem dX2_takeError_38 : decode cX2_takeError 38 = .ok (.invokevirtual 146, 3) := by decide +kernel
theorem dX2_takeError_41 : decode cX2_takeError 41 = .ok (.ifCond .ne 28, 3) := by decide +kernel
theorem dX2_takeError_44 : decode cX2_takeError 44 = .ok (.aload_n 0, 1) := by decide +kernel
theorem dX2_takeError_45 : decode cX2_takeError 45 = .ok (.iload_n 1, 1) := by decide +kernel
theorem dX2_takeError_46 : decode cX2_takeError 46 = .ok (.iconst (-1), 1) := by decide +kernel
theorem dX2_takeError_47 : decode cX2_takeError 47 = .ok (.invokevirtual 81, 3) := by decide +kernel
theorem dX2_takeError_50 : decode cX2_takeError 50 = .ok (.aload_n 0, 1) := by decide +kernel
theorem dX2_takeError_51 : decode cX2_takeError 51 = .ok (.getfield 21, 3) := by decide +kernel
theorem dX2_takeError_54 : decode cX2_takeError 54 = .ok (.getfield 29, 3) := by decide +kernel
theorem dX2_takeError_57 : decode cX2_takeError 57 = .ok (.if_icmp .lt 12, 3) := by decide +kernel
theorem dX2_takeError_60 : decode cX2_takeError 60 = .ok (.aload_n 0, 1) := by decide +kernel
theorem dX2_takeError_61 : decode cX2_takeError 61 = .ok (.iload_n 1, 1) := by decide +kernel
theorem dX2_takeError_62 : decode cX2_takeError 62 = .ok (.invokevirtual 149, 3) := by decide +kernel
theorem dX2_takeError_65 : decode cX2_takeError 65 = .ok (.aload_n 0, 1) := by decide +kernel
theorem dX2_takeError_66 : decode cX2_takeError 66 = .ok (.invokevirtual 36, 3) := by decide +kernel
theorem dX2_takeError_69 : decode cX2_takeError 69 = .ok (.return_, 1) := by decide +kernel
theorem dX2_beginAlarm_0 : decode cX2_beginAlarm 0 = .ok (.aload_n 0, 1) := by decide +kernel
theorem dX2_beginAlarm_1 : decode cX2_beginAlarm 1 = .ok (.iload_n 1, 1) := by decide +kernel
theorem dX2_beginAlarm_2 : decode cX2_beginAlarm 2 = .ok (.invokevirtual 42, 3) := by decide +kernel
theorem dX2_beginAlarm_5 : decode cX2_beginAlarm 5 = .ok (.ifCond .eq 38, 3) := by decide +kernel
theorem dX2_beginAlarm_8 : decode cX2_beginAlarm 8 = .ok (.aload_n 0, 1) := by decide +kernel
theorem dX2_beginAlarm_9 : decode cX2_beginAlarm 9 = .ok (.getfield 21, 3) := by decide +kernel
theorem dX2_beginAlarm_12 : decode cX2_beginAlarm 12 = .ok (.getfield 50, 3) := by decide +kernel
theorem dX2_beginAlarm_15 : decode cX2_beginAlarm 15 = .ok (.iload_n 1, 1) := by decide +kernel
theorem dX2_beginAlarm_16 : decode cX2_beginAlarm 16 = .ok (.aload_n 0, 1) := by decide +kernel
theorem dX2_beginAlarm_17 : decode cX2_beginAlarm 17 = .ok (.getfield 21, 3) := by decide +kernel
theorem dX2_beginAlarm_20 : decode cX2_beginAlarm 20 = .ok (.getfield 97, 3) := by decide +kernel
theorem dX2_beginAlarm_23 : decode cX2_beginAlarm 23 = .ok (.iastore, 1) := by decide +kernel
theorem dX2_beginAlarm_24 : decode cX2_beginAlarm 24 = .ok (.aload_n 0, 1) := by decide +kernel
theorem dX2_beginAlarm_25 : decode cX2_beginAlarm 25 = .ok (.getfield 21, 3) := by decide +kernel
theorem dX2_beginAlarm_28 : decode cX2_beginAlarm 28 = .ok (.getfield 137, 3) := by decide +kernel
theorem dX2_beginAlarm_31 : decode cX2_beginAlarm 31 = .ok (.iconst 0, 1) := by decide +kernel
theorem dX2_beginAlarm_32 : decode cX2_beginAlarm 32 = .ok (.iload_n 1, 1) := by decide +kernel
theorem dX2_beginAlarm_33 : decode cX2_beginAlarm 33 = .ok (.aload_n 0, 1) := by decide +kernel
theorem dX2_beginAlarm_34 : decode cX2_beginAlarm 34 = .ok (.getfield 21, 3) := by decide +kernel
theorem dX2_beginAlarm_37 : decode cX2_beginAlarm 37 = .ok (.getfield 97, 3) := by decide +kernel
theorem dX2_beginAlarm_40 : decode cX2_beginAlarm 40 = .ok (.invokevirtual 153, 3) := by decide +kernel
theorem dX2_beginAlarm_43 : decode cX2_beginAlarm 43 = .ok (.return_, 1) := by decide +kernel
theorem dX2_endWrongAlarm_0 : decode cX2_endWrongAlarm 0 = .ok (.aload_n 0, 1) := by decide +kernel
theorem dX2_endWrongAlarm_1 : decode cX2_endWrongAlarm 1 = .ok (.iload_n 1, 1) := by decide +kernel
theorem dX2_endWrongAlarm_2 : decode cX2_endWrongAlarm 2 = .ok (.invokevirtual 42, 3) := by decide +kernel
theorem dX2_endWrongAlarm_5 : decode cX2_endWrongAlarm 5 = .ok (.ifCond .eq 43, 3) := by decide +kernel
theorem dX2_endWrongAlarm_8 : decode cX2_endWrongAlarm 8 = .ok (.aload_n 0, 1) := by decide +kernel
theorem dX2_endWrongAlarm_9 : decode cX2_endWrongAlarm 9 = .ok (.getfield 21, 3) := by decide +kernel
theorem dX2_endWrongAlarm_12 : decode cX2_endWrongAlarm 12 = .ok (.getfield 50, 3) := by decide +kernel
theorem dX2_endWrongAlarm_15 : decode cX2_endWrongAlarm 15 = .ok (.iload_n 1, 1) := by decide +kernel
theorem dX2_endWrongAlarm_16 : decode cX2_endWrongAlarm 16 = .ok (.iconst (-1), 1) := by decide +kernel
theorem dX2_endWrongAlarm_17 : decode cX2_endWrongAlarm 17 = .ok (.iastore, 1) := by decide +kernel
theorem dX2_endWrongAlarm_18 : decode cX2_endWrongAlarm 18 = .ok (.aload_n 0, 1) := by decide +kernel
theorem dX2_endWrongAlarm_19 : decode cX2_endWrongAlarm 19 = .ok (.getfield 21, 3) := by decide +kernel
theorem dX2_endWrongAlarm_22 : decode cX2_endWrongAlarm 22 = .ok (.getfield 103, 3) := by decide +kernel
theorem dX2_endWrongAlarm_25 : decode cX2_endWrongAlarm 25 = .ok (.iload_n 1, 1) := by decide +kernel
theorem dX2_endWrongAlarm_26 : decode cX2_endWrongAlarm 26 = .ok (.invokevirtual 154, 3) := by decide +kernel
theorem dX2_endWrongAlarm_29 : decode cX2_endWrongAlarm 29 = .ok (.aload_n 0, 1) := by decide +kernel
theorem dX2_endWrongAlarm_30 : decode cX2_endWrongAlarm 30 = .ok (.getfield 21, 3) := by decide +kernel
theorem dX2_endWrongAlarm_33 : decode cX2_endWrongAlarm 33 = .ok (.getfield 137, 3) := by decide +kernel
theorem dX2_endWrongAlarm_36 : decode cX2_endWrongAlarm 36 = .ok (.iconst 1, 1) := by decide +kernel
theorem dX2_endWrongAlarm_37 : decode cX2_endWrongAlarm 37 = .ok (.iload_n 1, 1) := by decide +kernel
theorem dX2_endWrongAlarm_38 : decode cX2_endWrongAlarm 38 = .ok (.aload_n 0, 1) := by decide +kernel
theorem dX2_endWrongAlarm_39 : decode cX2_endWrongAlarm 39 = .ok (.getfield 21, 3) := by decide +kernel
theorem dX2_endWrongAlarm_42 : decode cX2_endWrongAlarm 42 = .ok (.getfield 97, 3) := by decide +kernel
theorem dX2_endWrongAlarm_45 : decode cX2_endWrongAlarm 45 = .ok (.invokevirtual 153, 3) := by decide +kernel
theorem dX2_endWrongAlarm_48 : decode cX2_endWrongAlarm 48 = .ok (.return_, 1) := by decide +kernel
theorem dX2_isWrongAlarm_0 : decode cX2_isWrongAlarm 0 = .ok (.aload_n 0, 1) := by decide +kernel
theorem dX2_isWrongAlarm_1 : decode cX2_isWrongAlarm 1 = .ok (.iload_n 1, 1) := by decide +kernel
theorem dX2_isWrongAlarm_2 : decode cX2_isWrongAlarm 2 = .ok (.invokevirtual 146, 3) := by decide +kernel
theorem dX2_isWrongAlarm_5 : decode cX2_isWrongAlarm 5 = .ok (.ifCond .eq 30, 3) := by decide +kernel
theorem dX2_isWrongAlarm_8 : decode cX2_isWrongAlarm 8 = .ok (.aload_n 0, 1) := by decide +kernel
theorem dX2_isWrongAlarm_9 : decode cX2_isWrongAlarm 9 = .ok (.getfield 21, 3) := by decide +kernel
theorem dX2_isWrongAlarm_12 : decode cX2_isWrongAlarm 12 = .ok (.getfield 97, 3) := by decide +kernel
theorem dX2_isWrongAlarm_15 : decode cX2_isWrongAlarm 15 = .ok (.aload_n 0, 1) := by decide +kernel
theorem dX2_isWrongAlarm_16 : decode cX2_isWrongAlarm 16 = .ok (.getfield 21, 3) := by decide +kernel
theorem dX2_isWrongAlarm_19 : decode cX2_isWrongAlarm 19 = .ok (.getfield 50, 3) := by decide +kernel
theorem dX2_isWrongAlarm_22 : decode cX2_isWrongAlarm 22 = .ok (.iload_n 1, 1) := by decide +kernel
theorem dX2_isWrongAlarm_23 : decode cX2_isWrongAlarm 23 = .ok (.iaload, 1) := by decide +kernel
theorem dX2_isWrongAlarm_24 : decode cX2_isWrongAlarm 24 = .ok (.isub, 1) := by decide +kernel
theorem dX2_isWrongAlarm_25 : decode cX2_isWrongAlarm 25 = .ok (.aload_n 0, 1) := by decide +kernel
theorem dX2_isWrongAlarm_26 : decode cX2_isWrongAlarm 26 = .ok (.getfield 12, 3) := by decide +kernel
theorem dX2_isWrongAlarm_29 : decode cX2_isWrongAlarm 29 = .ok (.getfield 157, 3) := by decide +kernel
theorem dX2_isWrongAlarm_32 : decode cX2_isWrongAlarm 32 = .ok (.if_icmp .ge 5, 3) := by decide +kernel
theorem dX2_isWrongAlarm_35 : decode cX2_isWrongAlarm 35 = .ok (.iconst 0, 1) := by decide +kernel
theorem dX2_isWrongAlarm_36 : decode cX2_isWrongAlarm 36 = .ok (.ireturn, 1) := by decide +kernel
theorem dX2_isWrongAlarm_37 : decode cX2_isWrongAlarm 37 = .ok (.aload_n 0, 1) := by decide +kernel
theorem dX2_isWrongAlarm_38 : decode cX2_isWrongAlarm 38 = .ok (.getfield 21, 3) := by decide +kernel
theorem dX2_isWrongAlarm_41 : decode cX2_isWrongAlarm 41 = .ok (.getfield 103, 3) := by decide +kernel
theorem dX2_isWrongAlarm_44 : decode cX2_isWrongAlarm 44 = .ok (.getfield 107, 3) := by decide +kernel
theorem dX2_isWrongAlarm_47 : decode cX2_isWrongAlarm 47 = .ok (.iload_n 1, 1) := by decide +kernel
theorem dX2_isWrongAlarm_48 : decode cX2_isWrongAlarm 48 = .ok (.iaload, 1) := by decide +kernel
theorem dX2_isWrongAlarm_49 : decode cX2_isWrongAlarm 49 = .ok (.ifCond .eq 33, 3) := by decide +kernel
theorem dX2_isWrongAlarm_52 : decode cX2_isWrongAlarm 52 = .ok (.aload_n 0, 1) := by decide +kernel
theorem dX2_isWrongAlarm_53 : decode cX2_isWrongAlarm 53 = .ok (.getfield 21, 3) := by decide +kernel
theorem dX2_isWrongAlarm_56 : decode cX2_isWrongAlarm 56 = .ok (.getfield 97, 3) := by decide +kernel
theorem dX2_isWrongAlarm_59 : decode cX2_isWrongAlarm 59 = .ok (.aload_n 0, 1) := by decide +kernel
theorem dX2_isWrongAlarm_60 : decode cX2_isWrongAlarm 60 = .ok (.getfield 21, 3) := by decide +kernel
theorem dX2_isWrongAlarm_63 : decode cX2_isWrongAlarm 63 = .ok (.getfield 103, 3) := by decide +kernel
theorem dX2_isWrongAlarm_66 : decode cX2_isWrongAlarm 66 = .ok (.iload_n 1, 1) := by decide +kernel
theorem dX2_isWrongAlarm_67 : decode cX2_isWrongAlarm 67 = .ok (.iconst 0, 1) := by decide +kernel
theorem dX2_isWrongAlarm_68 : decode cX2_isWrongAlarm 68 = .ok (.invokevirtual 115, 3) := by decide +kernel
theorem dX2_isWrongAlarm_71 : decode cX2_isWrongAlarm 71 = .ok (.isub, 1) := by decide +kernel
theorem dX2_isWrongAlarm_72 : decode cX2_isWrongAlarm 72 = .ok (.aload_n 0, 1) := by decide +kernel
theorem dX2_isWrongAlarm_73 : decode cX2_isWrongAlarm 73 = .ok (.getfield 12, 3) := by decide +kernel
theorem dX2_isWrongAlarm_76 : decode cX2_isWrongAlarm 76 = .ok (.getfield 157, 3) := by decide +kernel
theorem dX2_isWrongAlarm_79 : decode cX2_isWrongAlarm 79 = .ok (.if_icmp .lt 7, 3) := by decide +kernel
theorem dX2_isWrongAlarm_82 : decode cX2_isWrongAlarm 82 = .ok (.iconst 1, 1) := by decide +kernel
theorem dX2_isWrongAlarm_83 : decode cX2_isWrongAlarm 83 = .ok (.goto 4, 3) := by decide +kernel
theorem dX2_isWrongAlarm_86 : decode cX2_isWrongAlarm 86 = .ok (.iconst 0, 1) := by decide +kernel
theorem dX2_isWrongAlarm_87 : decode cX2_isWrongAlarm 87 = .ok (.ireturn, 1) := by decide +kernel
theorem dX2_pullOut_0 : decode cX2_pullOut 0 = .ok (.aload_n 0, 1) := by decide +kernel
theorem dX2_pullOut_1 : decode cX2_pullOut 1 = .ok (.iload_n 1, 1) := by decide +kernel
theorem dX2_pullOut_2 : decode cX2_pullOut 2 = .ok (.invokevirtual 42, 3) := by decide +kernel
theorem dX2_pullOut_5 : decode cX2_pullOut 5 = .ok (.ifCond .ne 5, 3) := by decide +kernel
theorem dX2_pullOut_8 : decode cX2_pullOut 8 = .ok (.iconst 0, 1) := by decide +kernel
theorem dX2_pullOut_9 : decode cX2_pullOut 9 = .ok (.ireturn, 1) := by decide +kernel
theorem dX2_pullOut_10 : decode cX2_pullOut 10 = .ok (.aload_n 0, 1) := by decide +kernel
theorem dX2_pullOut_11 : decode cX2_pullOut 11 = .ok (.getfield 21, 3) := by decide +kernel
theorem dX2_pullOut_14 : decode cX2_pullOut 14 = .ok (.getfield 137, 3) := by decide +kernel
theorem dX2_pullOut_17 : decode cX2_pullOut 17 = .ok (.aload_n 0, 1) := by decide +kernel
theorem dX2_pullOut_18 : decode cX2_pullOut 18 = .ok (.iload_n 1, 1) := by decide +kernel
theorem dX2_pullOut_19 : decode cX2_pullOut 19 = .ok (.invokevirtual 146, 3) := by decide +kernel
theorem dX2_pullOut_22 : decode cX2_pullOut 22 = .ok (.ifCond .eq 7, 3) := by decide +kernel
theorem dX2_pullOut_25 : decode cX2_pullOut 25 = .ok (.iconst 2, 1) := by decide +kernel
theorem dX2_pullOut_26 : decode cX2_pullOut 26 = .ok (.goto 4, 3) := by decide +kernel
theorem dX2_pullOut_29 : decode cX2_pullOut 29 = .ok (.iconst 3, 1) := by decide +kernel
theorem dX2_pullOut_30 : decode cX2_pullOut 30 = .ok (.iload_n 1, 1) := by decide +kernel
theorem dX2_pullOut_31 : decode cX2_pullOut 31 = .ok (.aload_n 0, 1) := by decide +kernel
theorem dX2_pullOut_32 : decode cX2_pullOut 32 = .ok (.getfield 21, 3) := by decide +kernel
theorem dX2_pullOut_35 : decode cX2_pullOut 35 = .ok (.getfield 97, 3) := by decide +kernel
theorem dX2_pullOut_38 : decode cX2_pullOut 38 = .ok (.invokevirtual 153, 3) := by decide +kernel
theorem dX2_pullOut_41 : decode cX2_pullOut 41 = .ok (.aload_n 0, 1) := by decide +kernel
theorem dX2_pullOut_42 : decode cX2_pullOut 42 = .ok (.getfield 21, 3) := by decide +kernel
theorem dX2_pullOut_45 : decode cX2_pullOut 45 = .ok (.getfield 46, 3) := by decide +kernel
theorem dX2_pullOut_48 : decode cX2_pullOut 48 = .ok (.iload_n 1, 1) := by decide +kernel
theorem dX2_pullOut_49 : decode cX2_pullOut 49 = .ok (.iconst (-1), 1) := by decide +kernel
theorem dX2_pullOut_50 : decode cX2_pullOut 50 = .ok (.iastore, 1) := by decide +kernel
theorem dX2_pullOut_51 : decode cX2_pullOut 51 = .ok (.aload_n 0, 1) := by decide +kernel
theorem dX2_pullOut_52 : decode cX2_pullOut 52 = .ok (.getfield 21, 3) := by decide +kernel
theorem dX2_pullOut_55 : decode cX2_pullOut 55 = .ok (.getfield 50, 3) := by decide +kernel
theorem dX2_pullOut_58 : decode cX2_pullOut 58 = .ok (.iload_n 1, 1) := by decide +kernel
theorem dX2_pullOut_59 : decode cX2_pullOut 59 = .ok (.iconst (-1), 1) := by decide +kernel
theorem dX2_pullOut_60 : decode cX2_pullOut 60 = .ok (.iastore, 1) := by decide +kernel
theorem dX2_pullOut_61 : decode cX2_pullOut 61 = .ok (.aload_n 0, 1) := by decide +kernel
theorem dX2_pullOut_62 : decode cX2_pullOut 62 = .ok (.getfield 21, 3) := by decide +kernel
theorem dX2_pullOut_65 : decode cX2_pullOut 65 = .ok (.getfield 103, 3) := by decide +kernel
theorem dX2_pullOut_68 : decode cX2_pullOut 68 = .ok (.iload_n 1, 1) := by decide +kernel
theorem dX2_pullOut_69 : decode cX2_pullOut 69 = .ok (.invokevirtual 154, 3) := by decide +kernel
theorem dX2_pullOut_72 : decode cX2_pullOut 72 = .ok (.iconst 0, 1) := by decide +kernel
theorem dX2_pullOut_73 : decode cX2_pullOut 73 = .ok (.istore_n 2, 1) := by decide +kernel
theorem dX2_pullOut_74 : decode cX2_pullOut 74 = .ok (.iconst 0, 1) := by decide +kernel
theorem dX2_pullOut_75 : decode cX2_pullOut 75 = .ok (.istore_n 3, 1) := by decide +kernel
theorem dX2_pullOut_76 : decode cX2_pullOut 76 = .ok (.iload_n 3, 1) := by decide +kernel
theorem dX2_pullOut_77 : decode cX2_pullOut 77 = .ok (.aload_n 0, 1) := by decide +kernel
theorem dX2_pullOut_78 : decode cX2_pullOut 78 = .ok (.getfield 12, 3) := by decide +kernel
theorem dX2_pullOut_81 : decode cX2_pullOut 81 = .ok (.getfield 53, 3) := by decide +kernel
theorem dX2_pullOut_84 : decode cX2_pullOut 84 = .ok (.if_icmp .ge 30, 3) := by decide +kernel
theorem dX2_pullOut_87 : decode cX2_pullOut 87 = .ok (.aload_n 0, 1) := by decide +kernel
theorem dX2_pullOut_88 : decode cX2_pullOut 88 = .ok (.getfield 21, 3) := by decide +kernel
theorem dX2_pullOut_91 : decode cX2_pullOut 91 = .ok (.getfield 56, 3) := by decide +kernel
theorem dX2_pullOut_94 : decode cX2_pullOut 94 = .ok (.iload_n 3, 1) := by decide +kernel
theorem dX2_pullOut_95 : decode cX2_pullOut 95 = .ok (.iaload, 1) := by decide +kernel
theorem dX2_pullOut_96 : decode cX2_pullOut 96 = .ok (.iload_n 1, 1) := by decide +kernel
theorem dX2_pullOut_97 : decode cX2_pullOut 97 = .ok (.if_icmp .ne 11, 3) := by decide +kernel
theorem dX2_pullOut_100 : decode cX2_pullOut 100 = .ok (.iload_n 2, 1) := by decide +kernel
theorem dX2_pullOut_101 : decode cX2_pullOut 101 = .ok (.aload_n 0, 1) := by decide +kernel
theorem dX2_pullOut_102 : decode cX2_pullOut 102 = .ok (.iload_n 3, 1) := by decide +kernel
theorem dX2_pullOut_103 : decode cX2_pullOut 103 = .ok (.invokevirtual 160, 3) := by decide +kernel
theorem dX2_pullOut_106 : decode cX2_pullOut 106 = .ok (.iadd, 1) := by decide +kernel
theorem dX2_pullOut_107 : decode cX2_pullOut 107 = .ok (.istore_n 2, 1) := by decide +kernel
theorem dX2_pullOut_108 : decode cX2_pullOut 108 = .ok (.iinc 3 1, 3) := by decide +kernel
theorem dX2_pullOut_111 : decode cX2_pullOut 111 = .ok (.goto (-35), 3) := by decide +kernel
theorem dX2_pullOut_114 : decode cX2_pullOut 114 = .ok (.aload_n 0, 1) := by decide +kernel
theorem dX2_pullOut_115 : decode cX2_pullOut 115 = .ok (.getfield 21, 3) := by decide +kernel
theorem dX2_pullOut_118 : decode cX2_pullOut 118 = .ok (.getfield 137, 3) := by decide +kernel
theorem dX2_pullOut_121 : decode cX2_pullOut 121 = .ok (.getfield 141, 3) := by decide +kernel
theorem dX2_pullOut_124 : decode cX2_pullOut 124 = .ok (.bipush 8, 2) := by decide +kernel
theorem dX2_pullOut_126 : decode cX2_pullOut 126 = .ok (.dup2, 1) := by decide +kernel
theorem dX2_pullOut_127 : decode cX2_pullOut 127 = .ok (.iaload, 1) := by decide +kernel
theorem dX2_pullOut_128 : decode cX2_pullOut 128 = .ok (.iload_n 2, 1) := by decide +kernel
theorem dX2_pullOut_129 : decode cX2_pullOut 129 = .ok (.iadd, 1) := by decide +kernel
theorem dX2_pullOut_130 : decode cX2_pullOut 130 = .ok (.iastore, 1) := by decide +kernel
theorem dX2_pullOut_131 : decode cX2_pullOut 131 = .ok (.aload_n 0, 1) := by decide +kernel
theorem dX2_pullOut_132 : decode cX2_pullOut 132 = .ok (.invokevirtual 36, 3) := by decide +kernel
theorem dX2_pullOut_135 : decode cX2_pullOut 135 = .ok (.iload_n 2, 1) := by decide +kernel
theorem dX2_pullOut_136 : decode cX2_pullOut 136 = .ok (.ireturn, 1) := by decide +kernel
theorem dX2_dropStream_0 : decode cX2_dropStream 0 = .ok (.aload_n 0, 1) := by decide +kernel
theorem dX2_dropStream_1 : decode cX2_dropStream 1 = .ok (.getfield 21, 3) := by decide +kernel
theorem dX2_dropStream_4 : decode cX2_dropStream 4 = .ok (.getfield 62, 3) := by decide +kernel
theorem dX2_dropStream_7 : decode cX2_dropStream 7 = .ok (.iload_n 1, 1) := by decide +kernel
theorem dX2_dropStream_8 : decode cX2_dropStream 8 = .ok (.iaload, 1) := by decide +kernel
theorem dX2_dropStream_9 : decode cX2_dropStream 9 = .ok (.istore_n 2, 1) := by decide +kernel
theorem dX2_dropStream_10 : decode cX2_dropStream 10 = .ok (.iload_n 2, 1) := by decide +kernel
theorem dX2_dropStream_11 : decode cX2_dropStream 11 = .ok (.ifCond .le 23, 3) := by decide +kernel
theorem dX2_dropStream_14 : decode cX2_dropStream 14 = .ok (.aload_n 0, 1) := by decide +kernel
theorem dX2_dropStream_15 : decode cX2_dropStream 15 = .ok (.getfield 21, 3) := by decide +kernel
theorem dX2_dropStream_18 : decode cX2_dropStream 18 = .ok (.getfield 137, 3) := by decide +kernel
theorem dX2_dropStream_21 : decode cX2_dropStream 21 = .ok (.bipush 7, 2) := by decide +kernel
theorem dX2_dropStream_23 : decode cX2_dropStream 23 = .ok (.iload_n 1, 1) := by decide +kernel
theorem dX2_dropStream_24 : decode cX2_dropStream 24 = .ok (.aload_n 0, 1) := by decide +kernel
theorem dX2_dropStream_25 : decode cX2_dropStream 25 = .ok (.getfield 21, 3) := by decide +kernel
theorem dX2_dropStream_28 : decode cX2_dropStream 28 = .ok (.getfield 97, 3) := by decide +kernel
theorem dX2_dropStream_31 : decode cX2_dropStream 31 = .ok (.invokevirtual 153, 3) := by decide +kernel
theorem dX2_dropStream_34 : decode cX2_dropStream 34 = .ok (.aload_n 0, 1) := by decide +kernel
theorem dX2_dropStream_35 : decode cX2_dropStream 35 = .ok (.getfield 21, 3) := by decide +kernel
theorem dX2_dropStream_38 : decode cX2_dropStream 38 = .ok (.getfield 62, 3) := by decide +kernel
theorem dX2_dropStream_41 : decode cX2_dropStream 41 = .ok (.iload_n 1, 1) := by decide +kernel
theorem dX2_dropStream_42 : decode cX2_dropStream 42 = .ok (.iconst 0, 1) := by decide +kernel
theorem dX2_dropStream_43 : decode cX2_dropStream 43 = .ok (.iastore, 1) := by decide +kernel
theorem dX2_dropStream_44 : decode cX2_dropStream 44 = .ok (.aload_n 0, 1) := by decide +kernel
theorem dX2_dropStream_45 : decode cX2_dropStream 45 = .ok (.getfield 21, 3) := by decide +kernel
theorem dX2_dropStream_48 : decode cX2_dropStream 48 = .ok (.getfield 56, 3) := by decide +kernel
theorem dX2_dropStream_51 : decode cX2_dropStream 51 = .ok (.iload_n 1, 1) := by decide +kernel
theorem dX2_dropStream_52 : decode cX2_dropStream 52 = .ok (.iconst (-1), 1) := by decide +kernel
theorem dX2_dropStream_53 : decode cX2_dropStream 53 = .ok (.iastore, 1) := by decide +kernel
theorem dX2_dropStream_54 : decode cX2_dropStream 54 = .ok (.aload_n 0, 1) := by decide +kernel
theorem dX2_dropStream_55 : decode cX2_dropStream 55 = .ok (.getfield 21, 3) := by decide +kernel
theorem dX2_dropStream_58 : decode cX2_dropStream 58 = .ok (.getfield 163, 3) := by decide +kernel
theorem dX2_dropStream_61 : decode cX2_dropStream 61 = .ok (.iload_n 1, 1) := by decide +kernel
theorem dX2_dropStream_62 : decode cX2_dropStream 62 = .ok (.iconst 0, 1) := by decide +kernel
theorem dX2_dropStream_63 : decode cX2_dropStream 63 = .ok (.iastore, 1) := by decide +kernel
theorem dX2_dropStream_64 : decode cX2_dropStream 64 = .ok (.iload_n 2, 1) := by decide +kernel
theorem dX2_dropStream_65 : decode cX2_dropStream 65 = .ok (.ireturn, 1) := by decide +kernel
theorem dX2_putIn_0 : decode cX2_putIn 0 = .ok (.aload_n 0, 1) := by decide +kernel
theorem dX2_putIn_1 : decode cX2_putIn 1 = .ok (.iload_n 1, 1) := by decide +kernel
theorem dX2_putIn_2 : decode cX2_putIn 2 = .ok (.invokevirtual 42, 3) := by decide +kernel
theorem dX2_putIn_5 : decode cX2_putIn 5 = .ok (.ifCond .eq 27, 3) := by decide +kernel
theorem dX2_putIn_8 : decode cX2_putIn 8 = .ok (.aload_n 0, 1) := by decide +kernel
theorem dX2_putIn_9 : decode cX2_putIn 9 = .ok (.getfield 21, 3) := by decide +kernel
theorem dX2_putIn_12 : decode cX2_putIn 12 = .ok (.getfield 46, 3) := by decide +kernel
theorem dX2_putIn_15 : decode cX2_putIn 15 = .ok (.iload_n 1, 1) := by decide +kernel
theorem dX2_putIn_16 : decode cX2_putIn 16 = .ok (.iload_n 2, 1) := by decide +kernel
theorem dX2_putIn_17 : decode cX2_putIn 17 = .ok (.iastore, 1) := by decide +kernel
theorem dX2_putIn_18 : decode cX2_putIn 18 = .ok (.aload_n 0, 1) := by decide +kernel
theorem dX2_putIn_19 : decode cX2_putIn 19 = .ok (.getfield 21, 3) := by decide +kernel
theorem dX2_putIn_22 : decode cX2_putIn 22 = .ok (.getfield 50, 3) := by decide +kernel
theorem dX2_putIn_25 : decode cX2_putIn 25 = .ok (.iload_n 1, 1) := by decide +kernel
theorem dX2_putIn_26 : decode cX2_putIn 26 = .ok (.iconst (-1), 1) := by decide +kernel
theorem dX2_putIn_27 : decode cX2_putIn 27 = .ok (.iastore, 1) := by decide +kernel
theorem dX2_putIn_28 : decode cX2_putIn 28 = .ok (.aload_n 0, 1) := by decide +kernel
theorem dX2_putIn_29 : decode cX2_putIn 29 = .ok (.invokevirtual 36, 3) := by decide +kernel
theorem dX2_putIn_32 : decode cX2_putIn 32 = .ok (.return_, 1) := by decide +kernel
theorem dX2_reserved_0 : decode cX2_reserved 0 = .ok (.iconst 0, 1) := by decide +kernel
theorem dX2_reserved_1 : decode cX2_reserved 1 = .ok (.istore_n 1, 1) := by decide +kernel
theorem dX2_reserved_2 : decode cX2_reserved 2 = .ok (.iconst 0, 1) := by decide +kernel
theorem dX2_reserved_3 : decode cX2_reserved 3 = .ok (.istore_n 2, 1) := by decide +kernel
theorem dX2_reserved_4 : decode cX2_reserved 4 = .ok (.iload_n 2, 1) := by decide +kernel
theorem dX2_reserved_5 : decode cX2_reserved 5 = .ok (.aload_n 0, 1) := by decide +kernel
theorem dX2_reserved_6 : decode cX2_reserved 6 = .ok (.getfield 12, 3) := by decide +kernel
theorem dX2_reserved_9 : decode cX2_reserved 9 = .ok (.getfield 53, 3) := by decide +kernel
theorem dX2_reserved_12 : decode cX2_reserved 12 = .ok (.if_icmp .ge 33, 3) := by decide +kernel
theorem dX2_reserved_15 : decode cX2_reserved 15 = .ok (.aload_n 0, 1) := by decide +kernel
theorem dX2_reserved_16 : decode cX2_reserved 16 = .ok (.getfield 21, 3) := by decide +kernel
theorem dX2_reserved_19 : decode cX2_reserved 19 = .ok (.getfield 163, 3) := by decide +kernel
theorem dX2_reserved_22 : decode cX2_reserved 22 = .ok (.iload_n 2, 1) := by decide +kernel
theorem dX2_reserved_23 : decode cX2_reserved 23 = .ok (.iaload, 1) := by decide +kernel
theorem dX2_reserved_24 : decode cX2_reserved 24 = .ok (.ifCond .eq 15, 3) := by decide +kernel
theorem dX2_reserved_27 : decode cX2_reserved 27 = .ok (.iload_n 1, 1) := by decide +kernel
theorem dX2_reserved_28 : decode cX2_reserved 28 = .ok (.aload_n 0, 1) := by decide +kernel
theorem dX2_reserved_29 : decode cX2_reserved 29 = .ok (.getfield 12, 3) := by decide +kernel
theorem dX2_reserved_32 : decode cX2_reserved 32 = .ok (.getfield 59, 3) := by decide +kernel
theorem dX2_reserved_35 : decode cX2_reserved 35 = .ok (.iload_n 2, 1) := by decide +kernel
theorem dX2_reserved_36 : decode cX2_reserved 36 = .ok (.iaload, 1) := by decide +kernel
theorem dX2_reserved_37 : decode cX2_reserved 37 = .ok (.iadd, 1) := by decide +kernel
theorem dX2_reserved_38 : decode cX2_reserved 38 = .ok (.istore_n 1, 1) := by decide +kernel
theorem dX2_reserved_39 : decode cX2_reserved 39 = .ok (.iinc 2 1, 3) := by decide +kernel
theorem dX2_reserved_42 : decode cX2_reserved 42 = .ok (.goto (-38), 3) := by decide +kernel
theorem dX2_reserved_45 : decode cX2_reserved 45 = .ok (.iload_n 1, 1) := by decide +kernel
theorem dX2_reserved_46 : decode cX2_reserved 46 = .ok (.ireturn, 1) := by decide +kernel
theorem dX2_heirOfHome_0 : decode cX2_heirOfHome 0 = .ok (.aload_n 0, 1) := by decide +kernel
theorem dX2_heirOfHome_1 : decode cX2_heirOfHome 1 = .ok (.getfield 12, 3) := by decide +kernel
theorem dX2_heirOfHome_4 : decode cX2_heirOfHome 4 = .ok (.getfield 166, 3) := by decide +kernel
theorem dX2_heirOfHome_7 : decode cX2_heirOfHome 7 = .ok (.iload_n 1, 1) := by decide +kernel
theorem dX2_heirOfHome_8 : decode cX2_heirOfHome 8 = .ok (.iaload, 1) := by decide +kernel
theorem dX2_heirOfHome_9 : decode cX2_heirOfHome 9 = .ok (.istore_n 2, 1) := by decide +kernel
theorem dX2_heirOfHome_10 : decode cX2_heirOfHome 10 = .ok (.aload_n 0, 1) := by decide +kernel
theorem dX2_heirOfHome_11 : decode cX2_heirOfHome 11 = .ok (.iload_n 2, 1) := by decide +kernel
theorem dX2_heirOfHome_12 : decode cX2_heirOfHome 12 = .ok (.invokevirtual 42, 3) := by decide +kernel
theorem dX2_heirOfHome_15 : decode cX2_heirOfHome 15 = .ok (.ifCond .eq 15, 3) := by decide +kernel
theorem dX2_heirOfHome_18 : decode cX2_heirOfHome 18 = .ok (.aload_n 0, 1) := by decide +kernel
theorem dX2_heirOfHome_19 : decode cX2_heirOfHome 19 = .ok (.getfield 12, 3) := by decide +kernel
theorem dX2_heirOfHome_22 : decode cX2_heirOfHome 22 = .ok (.getfield 169, 3) := by decide +kernel
theorem dX2_heirOfHome_25 : decode cX2_heirOfHome 25 = .ok (.iload_n 2, 1) := by decide +kernel
theorem dX2_heirOfHome_26 : decode cX2_heirOfHome 26 = .ok (.iaload, 1) := by decide +kernel
theorem dX2_heirOfHome_27 : decode cX2_heirOfHome 27 = .ok (.goto 4, 3) := by decide +kernel
theorem dX2_heirOfHome_30 : decode cX2_heirOfHome 30 = .ok (.iconst (-1), 1) := by decide +kernel
theorem dX2_heirOfHome_31 : decode cX2_heirOfHome 31 = .ok (.ireturn, 1) := by decide +kernel
theorem dX2_wantedHolder_0 : decode cX2_wantedHolder 0 = .ok (.aload_n 0, 1) := by decide +kernel
theorem dX2_wantedHolder_1 : decode cX2_wantedHolder 1 = .ok (.getfield 12, 3) := by decide +kernel
theorem dX2_wantedHolder_4 : decode cX2_wantedHolder 4 = .ok (.getfield 166, 3) := by decide +kernel
theorem dX2_wantedHolder_7 : decode cX2_wantedHolder 7 = .ok (.iload_n 1, 1) := by decide +kernel
theorem dX2_wantedHolder_8 : decode cX2_wantedHolder 8 = .ok (.iaload, 1) := by decide +kernel
theorem dX2_wantedHolder_9 : decode cX2_wantedHolder 9 = .ok (.istore_n 2, 1) := by decide +kernel
theorem dX2_wantedHolder_10 : decode cX2_wantedHolder 10 = .ok (.aload_n 0, 1) := by decide +kernel
theorem dX2_wantedHolder_11 : decode cX2_wantedHolder 11 = .ok (.iload_n 2, 1) := by decide +kernel
theorem dX2_wantedHolder_12 : decode cX2_wantedHolder 12 = .ok (.invokevirtual 130, 3) := by decide +kernel
theorem dX2_wantedHolder_15 : decode cX2_wantedHolder 15 = .ok (.ifCond .eq 5, 3) := by decide +kernel
theorem dX2_wantedHolder_18 : decode cX2_wantedHolder 18 = .ok (.iload_n 2, 1) := by decide +kernel
theorem dX2_wantedHolder_19 : decode cX2_wantedHolder 19 = .ok (.ireturn, 1) := by decide +kernel
theorem dX2_wantedHolder_20 : decode cX2_wantedHolder 20 = .ok (.aload_n 0, 1) := by decide +kernel
theorem dX2_wantedHolder_21 : decode cX2_wantedHolder 21 = .ok (.iload_n 1, 1) := by decide +kernel
theorem dX2_wantedHolder_22 : decode cX2_wantedHolder 22 = .ok (.invokevirtual 172, 3) := by decide +kernel
theorem dX2_wantedHolder_25 : decode cX2_wantedHolder 25 = .ok (.istore_n 3, 1) := by decide +kernel
theorem dX2_wantedHolder_26 : decode cX2_wantedHolder 26 = .ok (.aload_n 0, 1) := by decide +kernel
theorem dX2_wantedHolder_27 : decode cX2_wantedHolder 27 = .ok (.iload_n 3, 1) := by decide +kernel
theorem dX2_wantedHolder_28 : decode cX2_wantedHolder 28 = .ok (.invokevirtual 130, 3) := by decide +kernel
theorem dX2_wantedHolder_31 : decode cX2_wantedHolder 31 = .ok (.ifCond .eq 7, 3) := by decide +kernel
theorem dX2_wantedHolder_34 : decode cX2_wantedHolder 34 = .ok (.iload_n 3, 1) := by decide +kernel
theorem dX2_wantedHolder_35 : decode cX2_wantedHolder 35 = .ok (.goto 4, 3) := by decide +kernel
theorem dX2_wantedHolder_38 : decode cX2_wantedHolder 38 = .ok (.iconst (-1), 1) := by decide +kernel
theorem dX2_wantedHolder_39 : decode cX2_wantedHolder 39 = .ok (.ireturn, 1) := by decide +kernel
theorem dX2_reasonNotToRun_0 : decode cX2_reasonNotToRun 0 = .ok (.aload_n 0, 1) := by decide +kernel
theorem dX2_reasonNotToRun_1 : decode cX2_reasonNotToRun 1 = .ok (.getfield 21, 3) := by decide +kernel
theorem dX2_reasonNotToRun_4 : decode cX2_reasonNotToRun 4 = .ok (.getfield 163, 3) := by decide +kernel
theorem dX2_reasonNotToRun_7 : decode cX2_reasonNotToRun 7 = .ok (.iload_n 1, 1) := by decide +kernel
theorem dX2_reasonNotToRun_8 : decode cX2_reasonNotToRun 8 = .ok (.iaload, 1) := by decide +kernel
theorem dX2_reasonNotToRun_9 : decode cX2_reasonNotToRun 9 = .ok (.iconst 1, 1) := by decide +kernel
theorem dX2_reasonNotToRun_10 : decode cX2_reasonNotToRun 10 = .ok (.if_icmp .ne 5, 3) := by decide +kernel
theorem dX2_reasonNotToRun_13 : decode cX2_reasonNotToRun 13 = .ok (.iconst 0, 1) := by decide +kernel
theorem dX2_reasonNotToRun_14 : decode cX2_reasonNotToRun 14 = .ok (.ireturn, 1) := by decide +kernel
theorem dX2_reasonNotToRun_15 : decode cX2_reasonNotToRun 15 = .ok (.aload_n 0, 1) := by decide +kernel
theorem dX2_reasonNotToRun_16 : decode cX2_reasonNotToRun 16 = .ok (.iload_n 1, 1) := by decide +kernel
theorem dX2_reasonNotToRun_17 : decode cX2_reasonNotToRun 17 = .ok (.invokevirtual 175, 3) := by decide +kernel
theorem dX2_reasonNotToRun_20 : decode cX2_reasonNotToRun 20 = .ok (.iconst (-1), 1) := by decide +kernel
theorem dX2_reasonNotToRun_21 : decode cX2_reasonNotToRun 21 = .ok (.if_icmp .ne 18, 3) := by decide +kernel
theorem dX2_reasonNotToRun_24 : decode cX2_reasonNotToRun 24 = .ok (.aload_n 0, 1) := by decide +kernel
theorem dX2_reasonNotToRun_25 : decode cX2_reasonNotToRun 25 = .ok (.iload_n 1, 1) := by decide +kernel
theorem dX2_reasonNotToRun_26 : decode cX2_reasonNotToRun 26 = .ok (.invokevirtual 172, 3) := by decide +kernel
theorem dX2_reasonNotToRun_29 : decode cX2_reasonNotToRun 29 = .ok (.iconst (-1), 1) := by decide +kernel
theorem dX2_reasonNotToRun_30 : decode cX2_reasonNotToRun 30 = .ok (.if_icmp .ne 7, 3) := by decide +kernel
theorem dX2_reasonNotToRun_33 : decode cX2_reasonNotToRun 33 = .ok (.iconst 1, 1) := by decide +kernel
theorem dX2_reasonNotToRun_34 : decode cX2_reasonNotToRun 34 = .ok (.goto 4, 3) := by decide +kernel
theorem dX2_reasonNotToRun_37 : decode cX2_reasonNotToRun 37 = .ok (.iconst 2, 1) := by decide +kernel
theorem dX2_reasonNotToRun_38 : decode cX2_reasonNotToRun 38 = .ok (.ireturn, 1) := by decide +kernel
theorem dX2_reasonNotToRun_39 : decode cX2_reasonNotToRun 39 = .ok (.aload_n 0, 1) := by decide +kernel
theorem dX2_reasonNotToRun_40 : decode cX2_reasonNotToRun 40 = .ok (.getfield 21, 3) := by decide +kernel
theorem dX2_reasonNotToRun_43 : decode cX2_reasonNotToRun 43 = .ok (.getfield 163, 3) := by decide +kernel
theorem dX2_reasonNotToRun_46 : decode cX2_reasonNotToRun 46 = .ok (.iload_n 1, 1) := by decide +kernel
theorem dX2_reasonNotToRun_47 : decode cX2_reasonNotToRun 47 = .ok (.iaload, 1) := by decide +kernel
theorem dX2_reasonNotToRun_48 : decode cX2_reasonNotToRun 48 = .ok (.ifCond .ne 7, 3) := by decide +kernel
theorem dX2_reasonNotToRun_51 : decode cX2_reasonNotToRun 51 = .ok (.iconst 3, 1) := by decide +kernel
theorem dX2_reasonNotToRun_52 : decode cX2_reasonNotToRun 52 = .ok (.goto 4, 3) := by decide +kernel
theorem dX2_reasonNotToRun_55 : decode cX2_reasonNotToRun 55 = .ok (.iconst 4, 1) := by decide +kernel
theorem dX2_reasonNotToRun_56 : decode cX2_reasonNotToRun 56 = .ok (.ireturn, 1) := by decide +kernel
theorem dX2_settle_0 : decode cX2_settle 0 = .ok (.iconst 0, 1) := by decide +kernel
theorem dX2_settle_1 : decode cX2_settle 1 = .ok (.istore_n 1, 1) := by decide +kernel
theorem dX2_settle_2 : decode cX2_settle 2 = .ok (.iload_n 1, 1) := by decide +kernel
theorem dX2_settle_3 : decode cX2_settle 3 = .ok (.aload_n 0, 1) := by decide +kernel
theorem dX2_settle_4 : decode cX2_settle 4 = .ok (.getfield 12, 3) := by decide +kernel
theorem dX2_settle_7 : decode cX2_settle 7 = .ok (.getfield 53, 3) := by decide +kernel
theorem dX2_settle_10 : decode cX2_settle 10 = .ok (.if_icmp .ge 26, 3) := by decide +kernel
theorem dX2_settle_13 : decode cX2_settle 13 = .ok (.aload_n 0, 1) := by decide +kernel
theorem dX2_settle_14 : decode cX2_settle 14 = .ok (.getfield 21, 3) := by decide +kernel
theorem dX2_settle_17 : decode cX2_settle 17 = .ok (.getfield 163, 3) := by decide +kernel
theorem dX2_settle_20 : decode cX2_settle 20 = .ok (.iload_n 1, 1) := by decide +kernel
theorem dX2_settle_21 : decode cX2_settle 21 = .ok (.iaload, 1) := by decide +kernel
theorem dX2_settle_22 : decode cX2_settle 22 = .ok (.ifCond .eq 8, 3) := by decide +kernel
theorem dX2_settle_25 : decode cX2_settle 25 = .ok (.aload_n 0, 1) := by decide +kernel
theorem dX2_settle_26 : decode cX2_settle 26 = .ok (.iload_n 1, 1) := by decide +kernel
theorem dX2_settle_27 : decode cX2_settle 27 = .ok (.invokevirtual 178, 3) := by decide +kernel
theorem dX2_settle_30 : decode cX2_settle 30 = .ok (.iinc 1 1, 3) := by decide +kernel
theorem dX2_settle_33 : decode cX2_settle 33 = .ok (.goto (-31), 3) := by decide +kernel
theorem dX2_settle_36 : decode cX2_settle 36 = .ok (.aload_n 0, 1) := by decide +kernel
theorem dX2_settle_37 : decode cX2_settle 37 = .ok (.getfield 12, 3) := by decide +kernel
theorem dX2_settle_40 : decode cX2_settle 40 = .ok (.getfield 181, 3) := by decide +kernel
theorem dX2_settle_43 : decode cX2_settle 43 = .ok (.aload_n 0, 1) := by decide +kernel
theorem dX2_settle_44 : decode cX2_settle 44 = .ok (.invokevirtual 184, 3) := by decide +kernel
theorem dX2_settle_47 : decode cX2_settle 47 = .ok (.isub, 1) := by decide +kernel
theorem dX2_settle_48 : decode cX2_settle 48 = .ok (.istore_n 1, 1) := by decide +kernel
theorem dX2_settle_49 : decode cX2_settle 49 = .ok (.iconst 0, 1) := by decide +kernel
theorem dX2_settle_50 : decode cX2_settle 50 = .ok (.istore_n 2, 1) := by decide +kernel
theorem dX2_settle_51 : decode cX2_settle 51 = .ok (.iload_n 2, 1) := by decide +kernel
theorem dX2_settle_52 : decode cX2_settle 52 = .ok (.aload_n 0, 1) := by decide +kernel
theorem dX2_settle_53 : decode cX2_settle 53 = .ok (.getfield 12, 3) := by decide +kernel
theorem dX2_settle_56 : decode cX2_settle 56 = .ok (.getfield 53, 3) := by decide +kernel
theorem dX2_settle_59 : decode cX2_settle 59 = .ok (.if_icmp .ge 109, 3) := by decide +kernel
theorem dX2_settle_62 : decode cX2_settle 62 = .ok (.aload_n 0, 1) := by decide +kernel
theorem dX2_settle_63 : decode cX2_settle 63 = .ok (.iload_n 2, 1) := by decide +kernel
theorem dX2_settle_64 : decode cX2_settle 64 = .ok (.invokevirtual 175, 3) := by decide +kernel
theorem dX2_settle_67 : decode cX2_settle 67 = .ok (.istore_n 3, 1) := by decide +kernel
theorem dX2_settle_68 : decode cX2_settle 68 = .ok (.aload_n 0, 1) := by decide +kernel
theorem dX2_settle_69 : decode cX2_settle 69 = .ok (.getfield 21, 3) := by decide +kernel
theorem dX2_settle_72 : decode cX2_settle 72 = .ok (.getfield 163, 3) := by decide +kernel
theorem dX2_settle_75 : decode cX2_settle 75 = .ok (.iload_n 2, 1) := by decide +kernel
theorem dX2_settle_76 : decode cX2_settle 76 = .ok (.iaload, 1) := by decide +kernel
theorem dX2_settle_77 : decode cX2_settle 77 = .ok (.ifCond .ne 7, 3) := by decide +kernel
theorem dX2_settle_80 : decode cX2_settle 80 = .ok (.iconst 1, 1) := by decide +kernel
theorem dX2_settle_81 : decode cX2_settle 81 = .ok (.goto 4, 3) := by decide +kernel
theorem dX2_settle_84 : decode cX2_settle 84 = .ok (.iconst 0, 1) := by decide +kernel
theorem dX2_settle_85 : decode cX2_settle 85 = .ok (.istore 4, 2) := by decide +kernel
theorem dX2_settle_87 : decode cX2_settle 87 = .ok (.iload 4, 2) := by decide +kernel
theorem dX2_settle_89 : decode cX2_settle 89 = .ok (.ifCond .eq 73, 3) := by decide +kernel
theorem dX2_settle_92 : decode cX2_settle 92 = .ok (.iload_n 3, 1) := by decide +kernel
theorem dX2_settle_93 : decode cX2_settle 93 = .ok (.iconst (-1), 1) := by decide +kernel
theorem dX2_settle_94 : decode cX2_settle 94 = .ok (.if_icmp .eq 68, 3) := by decide +kernel
theorem dX2_settle_97 : decode cX2_settle 97 = .ok (.aload_n 0, 1) := by decide +kernel
theorem dX2_settle_98 : decode cX2_settle 98 = .ok (.getfield 12, 3) := by decide +kernel
theorem dX2_settle_101 : decode cX2_settle 101 = .ok (.getfield 59, 3) := by decide +kernel
theorem dX2_settle_104 : decode cX2_settle 104 = .ok (.iload_n 2, 1) := by decide +kernel
theorem dX2_settle_105 : decode cX2_settle 105 = .ok (.iaload, 1) := by decide +kernel
theorem dX2_settle_106 : decode cX2_settle 106 = .ok (.iload_n 1, 1) := by decide +kernel
theorem dX2_settle_107 : decode cX2_settle 107 = .ok (.if_icmp .gt 55, 3) := by decide +kernel
theorem dX2_settle_110 : decode cX2_settle 110 = .ok (.iload_n 1, 1) := by decide +kernel
theorem dX2_settle_111 : decode cX2_settle 111 = .ok (.aload_n 0, 1) := by decide +kernel
theorem dX2_settle_112 : decode cX2_settle 112 = .ok (.getfield 12, 3) := by decide +kernel
theorem dX2_settle_115 : decode cX2_settle 115 = .ok (.getfield 59, 3) := by decide +kernel
theorem dX2_settle_118 : decode cX2_settle 118 = .ok (.iload_n 2, 1) := by decide +kernel
theorem dX2_settle_119 : decode cX2_settle 119 = .ok (.iaload, 1) := by decide +kernel
theorem dX2_settle_120 : decode cX2_settle 120 = .ok (.isub, 1) := by decide +kernel
theorem dX2_settle_121 : decode cX2_settle 121 = .ok (.istore_n 1, 1) := by decide +kernel
theorem dX2_settle_122 : decode cX2_settle 122 = .ok (.aload_n 0, 1) := by decide +kernel
theorem dX2_settle_123 : decode cX2_settle 123 = .ok (.getfield 21, 3) := by decide +kernel
theorem dX2_settle_126 : decode cX2_settle 126 = .ok (.getfield 56, 3) := by decide +kernel
theorem dX2_settle_129 : decode cX2_settle 129 = .ok (.iload_n 2, 1) := by decide +kernel
theorem dX2_settle_130 : decode cX2_settle 130 = .ok (.iload_n 3, 1) := by decide +kernel
theorem dX2_settle_131 : decode cX2_settle 131 = .ok (.iastore, 1) := by decide +kernel
theorem dX2_settle_132 : decode cX2_settle 132 = .ok (.aload_n 0, 1) := by decide +kernel
theorem dX2_settle_133 : decode cX2_settle 133 = .ok (.getfield 21, 3) := by decide +kernel
theorem dX2_settle_136 : decode cX2_settle 136 = .ok (.getfield 163, 3) := by decide +kernel
theorem dX2_settle_139 : decode cX2_settle 139 = .ok (.iload_n 2, 1) := by decide +kernel
theorem dX2_settle_140 : decode cX2_settle 140 = .ok (.iconst 1, 1) := by decide +kernel
theorem dX2_settle_141 : decode cX2_settle 141 = .ok (.iastore, 1) := by decide +kernel
theorem dX2_settle_142 : decode cX2_settle 142 = .ok (.aload_n 0, 1) := by decide +kernel
theorem dX2_settle_143 : decode cX2_settle 143 = .ok (.getfield 21, 3) := by decide +kernel
theorem dX2_settle_146 : decode cX2_settle 146 = .ok (.getfield 137, 3) := by decide +kernel
theorem dX2_settle_149 : decode cX2_settle 149 = .ok (.bipush 6, 2) := by decide +kernel
theorem dX2_settle_151 : decode cX2_settle 151 = .ok (.iload_n 2, 1) := by decide +kernel
theorem dX2_settle_152 : decode cX2_settle 152 = .ok (.aload_n 0, 1) := by decide +kernel
theorem dX2_settle_153 : decode cX2_settle 153 = .ok (.getfield 21, 3) := by decide +kernel
theorem dX2_settle_156 : decode cX2_settle 156 = .ok (.getfield 97, 3) := by decide +kernel
theorem dX2_settle_159 : decode cX2_settle 159 = .ok (.invokevirtual 153, 3) := by decide +kernel
theorem dX2_settle_162 : decode cX2_settle 162 = .ok (.iinc 2 1, 3) := by decide +kernel
theorem dX2_settle_165 : decode cX2_settle 165 = .ok (.goto (-114), 3) := by decide +kernel
theorem dX2_settle_168 : decode cX2_settle 168 = .ok (.return_, 1) := by decide +kernel
theorem dX2_settleHeld_0 : decode cX2_settleHeld 0 = .ok (.aload_n 0, 1) := by decide +kernel
theorem dX2_settleHeld_1 : decode cX2_settleHeld 1 = .ok (.iload_n 1, 1) := by decide +kernel
theorem dX2_settleHeld_2 : decode cX2_settleHeld 2 = .ok (.invokevirtual 175, 3) := by decide +kernel
theorem dX2_settleHeld_5 : decode cX2_settleHeld 5 = .ok (.istore_n 2, 1) := by decide +kernel
theorem dX2_settleHeld_6 : decode cX2_settleHeld 6 = .ok (.aload_n 0, 1) := by decide +kernel
theorem dX2_settleHeld_7 : decode cX2_settleHeld 7 = .ok (.getfield 21, 3) := by decide +kernel
theorem dX2_settleHeld_10 : decode cX2_settleHeld 10 = .ok (.getfield 56, 3) := by decide +kernel
theorem dX2_settleHeld_13 : decode cX2_settleHeld 13 = .ok (.iload_n 1, 1) := by decide +kernel
theorem dX2_settleHeld_14 : decode cX2_settleHeld 14 = .ok (.iaload, 1) := by decide +kernel
theorem dX2_settleHeld_15 : decode cX2_settleHeld 15 = .ok (.iload_n 2, 1) := by decide +kernel
theorem dX2_settleHeld_16 : decode cX2_settleHeld 16 = .ok (.if_icmp .ne 16, 3) := by decide +kernel
theorem dX2_settleHeld_19 : decode cX2_settleHeld 19 = .ok (.aload_n 0, 1) := by decide +kernel
theorem dX2_settleHeld_20 : decode cX2_settleHeld 20 = .ok (.getfield 21, 3) := by decide +kernel
theorem dX2_settleHeld_23 : decode cX2_settleHeld 23 = .ok (.getfield 163, 3) := by decide +kernel
theorem dX2_settleHeld_26 : decode cX2_settleHeld 26 = .ok (.iload_n 1, 1) := by decide +kernel
theorem dX2_settleHeld_27 : decode cX2_settleHeld 27 = .ok (.iconst 1, 1) := by decide +kernel
theorem dX2_settleHeld_28 : decode cX2_settleHeld 28 = .ok (.iastore, 1) := by decide +kernel
theorem dX2_settleHeld_29 : decode cX2_settleHeld 29 = .ok (.goto 85, 3) := by decide +kernel
theorem dX2_settleHeld_32 : decode cX2_settleHeld 32 = .ok (.aload_n 0, 1) := by decide +kernel
theorem dX2_settleHeld_33 : decode cX2_settleHeld 33 = .ok (.getfield 21, 3) := by decide +kernel
theorem dX2_settleHeld_36 : decode cX2_settleHeld 36 = .ok (.getfield 62, 3) := by decide +kernel
theorem dX2_settleHeld_39 : decode cX2_settleHeld 39 = .ok (.iload_n 1, 1) := by decide +kernel
theorem dX2_settleHeld_40 : decode cX2_settleHeld 40 = .ok (.iaload, 1) := by decide +kernel
theorem dX2_settleHeld_41 : decode cX2_settleHeld 41 = .ok (.ifCond .le 16, 3) := by decide +kernel
theorem dX2_settleHeld_44 : decode cX2_settleHeld 44 = .ok (.aload_n 0, 1) := by decide +kernel
theorem dX2_settleHeld_45 : decode cX2_settleHeld 45 = .ok (.getfield 21, 3) := by decide +kernel
theorem dX2_settleHeld_48 : decode cX2_settleHeld 48 = .ok (.getfield 163, 3) := by decide +kernel
theorem dX2_settleHeld_51 : decode cX2_settleHeld 51 = .ok (.iload_n 1, 1) := by decide +kernel
theorem dX2_settleHeld_52 : decode cX2_settleHeld 52 = .ok (.iconst 2, 1) := by decide +kernel
theorem dX2_settleHeld_53 : decode cX2_settleHeld 53 = .ok (.iastore, 1) := by decide +kernel
theorem dX2_settleHeld_54 : decode cX2_settleHeld 54 = .ok (.goto 60, 3) := by decide +kernel
theorem dX2_settleHeld_57 : decode cX2_settleHeld 57 = .ok (.aload_n 0, 1) := by decide +kernel
theorem dX2_settleHeld_58 : decode cX2_settleHeld 58 = .ok (.getfield 21, 3) := by decide +kernel
theorem dX2_settleHeld_61 : decode cX2_settleHeld 61 = .ok (.getfield 56, 3) := by decide +kernel
theorem dX2_settleHeld_64 : decode cX2_settleHeld 64 = .ok (.iload_n 1, 1) := by decide +kernel
theorem dX2_settleHeld_65 : decode cX2_settleHeld 65 = .ok (.iload_n 2, 1) := by decide +kernel
theorem dX2_settleHeld_66 : decode cX2_settleHeld 66 = .ok (.iastore, 1) := by decide +kernel
theorem dX2_settleHeld_67 : decode cX2_settleHeld 67 = .ok (.aload_n 0, 1) := by decide +kernel
theorem dX2_settleHeld_68 : decode cX2_settleHeld 68 = .ok (.getfield 21, 3) := by decide +kernel
theorem dX2_settleHeld_71 : decode cX2_settleHeld 71 = .ok (.getfield 163, 3) := by decide +kernel
theorem dX2_settleHeld_74 : decode cX2_settleHeld 74 = .ok (.iload_n 1, 1) := by decide +kernel
theorem dX2_settleHeld_75 : decode cX2_settleHeld 75 = .ok (.iload_n 2, 1) := by decide +kernel
theorem dX2_settleHeld_76 : decode cX2_settleHeld 76 = .ok (.iconst (-1), 1) := by decide +kernel
theorem dX2_settleHeld_77 : decode cX2_settleHeld 77 = .ok (.if_icmp .ne 7, 3) := by decide +kernel
theorem dX2_settleHeld_80 : decode cX2_settleHeld 80 = .ok (.iconst 0, 1) := by decide +kernel
theorem dX2_settleHeld_81 : decode cX2_settleHeld 81 = .ok (.goto 4, 3) := by decide +kernel
theorem dX2_settleHeld_84 : decode cX2_settleHeld 84 = .ok (.iconst 1, 1) := by decide +kernel
theorem dX2_settleHeld_85 : decode cX2_settleHeld 85 = .ok (.iastore, 1) := by decide +kernel
theorem dX2_settleHeld_86 : decode cX2_settleHeld 86 = .ok (.aload_n 0, 1) := by decide +kernel
theorem dX2_settleHeld_87 : decode cX2_settleHeld 87 = .ok (.getfield 21, 3) := by decide +kernel
theorem dX2_settleHeld_90 : decode cX2_settleHeld 90 = .ok (.getfield 137, 3) := by decide +kernel
theorem dX2_settleHeld_93 : decode cX2_settleHeld 93 = .ok (.iload_n 2, 1) := by decide +kernel
theorem dX2_settleHeld_94 : decode cX2_settleHeld 94 = .ok (.iconst (-1), 1) := by decide +kernel
theorem dX2_settleHeld_95 : decode cX2_settleHeld 95 = .ok (.if_icmp .ne 7, 3) := by decide +kernel
theorem dX2_settleHeld_98 : decode cX2_settleHeld 98 = .ok (.iconst 5, 1) := by decide +kernel
theorem dX2_settleHeld_99 : decode cX2_settleHeld 99 = .ok (.goto 4, 3) := by decide +kernel
theorem dX2_settleHeld_102 : decode cX2_settleHeld 102 = .ok (.iconst 4, 1) := by decide +kernel
theorem dX2_settleHeld_103 : decode cX2_settleHeld 103 = .ok (.iload_n 1, 1) := by decide +kernel
theorem dX2_settleHeld_104 : decode cX2_settleHeld 104 = .ok (.aload_n 0, 1) := by decide +kernel
theorem dX2_settleHeld_105 : decode cX2_settleHeld 105 = .ok (.getfield 21, 3) := by decide +kernel
theorem dX2_settleHeld_108 : decode cX2_settleHeld 108 = .ok (.getfield 97, 3) := by decide +kernel
theorem dX2_settleHeld_111 : decode cX2_settleHeld 111 = .ok (.invokevirtual 153, 3) := by decide +kernel
theorem dX2_settleHeld_114 : decode cX2_settleHeld 114 = .ok (.return_, 1) := by decide +kernel
theorem dX2_passFrame_0 : decode cX2_passFrame 0 = .ok (.aload_n 0, 1) := by decide +kernel
theorem dX2_passFrame_1 : decode cX2_passFrame 1 = .ok (.getfield 21, 3) := by decide +kernel
theorem dX2_passFrame_4 : decode cX2_passFrame 4 = .ok (.dup, 1) := by decide +kernel
theorem dX2_passFrame_5 : decode cX2_passFrame 5 = .ok (.getfield 97, 3) := by decide +kernel
theorem dX2_passFrame_8 : decode cX2_passFrame 8 = .ok (.iconst 1, 1) := by decide +kernel
theorem dX2_passFrame_9 : decode cX2_passFrame 9 = .ok (.iadd, 1) := by decide +kernel
theorem dX2_passFrame_10 : decode cX2_passFrame 10 = .ok (.putfield 97, 3) := by decide +kernel
theorem dX2_passFrame_13 : decode cX2_passFrame 13 = .ok (.iconst 0, 1) := by decide +kernel
theorem dX2_passFrame_14 : decode cX2_passFrame 14 = .ok (.istore_n 1, 1) := by decide +kernel
theorem dX2_passFrame_15 : decode cX2_passFrame 15 = .ok (.iload_n 1, 1) := by decide +kernel
theorem dX2_passFrame_16 : decode cX2_passFrame 16 = .ok (.aload_n 0, 1) := by decide +kernel
theorem dX2_passFrame_17 : decode cX2_passFrame 17 = .ok (.getfield 12, 3) := by decide +kernel
theorem dX2_passFrame_20 : decode cX2_passFrame 20 = .ok (.getfield 53, 3) := by decide +kernel
theorem dX2_passFrame_23 : decode cX2_passFrame 23 = .ok (.if_icmp .ge 48, 3) := by decide +kernel
theorem dX2_passFrame_26 : decode cX2_passFrame 26 = .ok (.aload_n 0, 1) := by decide +kernel
theorem dX2_passFrame_27 : decode cX2_passFrame 27 = .ok (.getfield 21, 3) := by decide +kernel
theorem dX2_passFrame_30 : decode cX2_passFrame 30 = .ok (.getfield 163, 3) := by decide +kernel
theorem dX2_passFrame_33 : decode cX2_passFrame 33 = .ok (.iload_n 1, 1) := by decide +kernel
theorem dX2_passFrame_34 : decode cX2_passFrame 34 = .ok (.iaload, 1) := by decide +kernel
theorem dX2_passFrame_35 : decode cX2_passFrame 35 = .ok (.iconst 1, 1) := by decide +kernel
theorem dX2_passFrame_36 : decode cX2_passFrame 36 = .ok (.if_icmp .ne 11, 3) := by decide +kernel
theorem dX2_passFrame_39 : decode cX2_passFrame 39 = .ok (.aload_n 0, 1) := by decide +kernel
theorem dX2_passFrame_40 : decode cX2_passFrame 40 = .ok (.iload_n 1, 1) := by decide +kernel
theorem dX2_passFrame_41 : decode cX2_passFrame 41 = .ok (.invokevirtual 188, 3) := by decide +kernel
theorem dX2_passFrame_44 : decode cX2_passFrame 44 = .ok (.goto 21, 3) := by decide +kernel
theorem dX2_passFrame_47 : decode cX2_passFrame 47 = .ok (.aload_n 0, 1) := by decide +kernel
theorem dX2_passFrame_48 : decode cX2_passFrame 48 = .ok (.getfield 21, 3) := by decide +kernel
theorem dX2_passFrame_51 : decode cX2_passFrame 51 = .ok (.getfield 163, 3) := by decide +kernel
theorem dX2_passFrame_54 : decode cX2_passFrame 54 = .ok (.iload_n 1, 1) := by decide +kernel
theorem dX2_passFrame_55 : decode cX2_passFrame 55 = .ok (.iaload, 1) := by decide +kernel
theorem dX2_passFrame_56 : decode cX2_passFrame 56 = .ok (.iconst 2, 1) := by decide +kernel
theorem dX2_passFrame_57 : decode cX2_passFrame 57 = .ok (.if_icmp .ne 8, 3) := by decide +kernel
theorem dX2_passFrame_60 : decode cX2_passFrame 60 = .ok (.aload_n 0, 1) := by decide +kernel
theorem dX2_passFrame_61 : decode cX2_passFrame 61 = .ok (.iload_n 1, 1) := by decide +kernel
theorem dX2_passFrame_62 : decode cX2_passFrame 62 = .ok (.invokevirtual 191, 3) := by decide +kernel
theorem dX2_passFrame_65 : decode cX2_passFrame 65 = .ok (.iinc 1 1, 3) := by decide +kernel
theorem dX2_passFrame_68 : decode cX2_passFrame 68 = .ok (.goto (-53), 3) := by decide +kernel
theorem dX2_passFrame_71 : decode cX2_passFrame 71 = .ok (.iconst 0, 1) := by decide +kernel
theorem dX2_passFrame_72 : decode cX2_passFrame 72 = .ok (.istore_n 1, 1) := by decide +kernel
theorem dX2_passFrame_73 : decode cX2_passFrame 73 = .ok (.iload_n 1, 1) := by decide +kernel
theorem dX2_passFrame_74 : decode cX2_passFrame 74 = .ok (.aload_n 0, 1) := by decide +kernel
theorem dX2_passFrame_75 : decode cX2_passFrame 75 = .ok (.getfield 12, 3) := by decide +kernel
theorem dX2_passFrame_78 : decode cX2_passFrame 78 = .ok (.getfield 39, 3) := by decide +kernel
theorem dX2_passFrame_81 : decode cX2_passFrame 81 = .ok (.if_icmp .ge 22, 3) := by decide +kernel
theorem dX2_passFrame_84 : decode cX2_passFrame 84 = .ok (.aload_n 0, 1) := by decide +kernel
theorem dX2_passFrame_85 : decode cX2_passFrame 85 = .ok (.iload_n 1, 1) := by decide +kernel
theorem dX2_passFrame_86 : decode cX2_passFrame 86 = .ok (.invokevirtual 194, 3) := by decide +kernel
theorem dX2_passFrame_89 : decode cX2_passFrame 89 = .ok (.ifCond .eq 8, 3) := by decide +kernel
theorem dX2_passFrame_92 : decode cX2_passFrame 92 = .ok (.aload_n 0, 1) := by decide +kernel
theorem dX2_passFrame_93 : decode cX2_passFrame 93 = .ok (.iload_n 1, 1) := by decide +kernel
theorem dX2_passFrame_94 : decode cX2_passFrame 94 = .ok (.invokevirtual 197, 3) := by decide +kernel
theorem dX2_passFrame_97 : decode cX2_passFrame 97 = .ok (.iinc 1 1, 3) := by decide +kernel
theorem dX2_passFrame_100 : decode cX2_passFrame 100 = .ok (.goto (-27), 3) := by decide +kernel
theorem dX2_passFrame_103 : decode cX2_passFrame 103 = .ok (.aload_n 0, 1) := by decide +kernel
theorem dX2_passFrame_104 : decode cX2_passFrame 104 = .ok (.invokevirtual 36, 3) := by decide +kernel
theorem dX2_passFrame_107 : decode cX2_passFrame 107 = .ok (.return_, 1) := by decide +kernel
theorem dX2_sendOn_0 : decode cX2_sendOn 0 = .ok (.aload_n 0, 1) := by decide +kernel
theorem dX2_sendOn_1 : decode cX2_sendOn 1 = .ok (.getfield 21, 3) := by decide +kernel
theorem dX2_sendOn_4 : decode cX2_sendOn 4 = .ok (.getfield 62, 3) := by decide +kernel
theorem dX2_sendOn_7 : decode cX2_sendOn 7 = .ok (.iload_n 1, 1) := by decide +kernel
theorem dX2_sendOn_8 : decode cX2_sendOn 8 = .ok (.iaload, 1) := by decide +kernel
theorem dX2_sendOn_9 : decode cX2_sendOn 9 = .ok (.aload_n 0, 1) := by decide +kernel
theorem dX2_sendOn_10 : decode cX2_sendOn 10 = .ok (.getfield 12, 3) := by decide +kernel
theorem dX2_sendOn_13 : decode cX2_sendOn 13 = .ok (.getfield 59, 3) := by decide +kernel
theorem dX2_sendOn_16 : decode cX2_sendOn 16 = .ok (.iload_n 1, 1) := by decide +kernel
theorem dX2_sendOn_17 : decode cX2_sendOn 17 = .ok (.iaload, 1) := by decide +kernel
theorem dX2_sendOn_18 : decode cX2_sendOn 18 = .ok (.iadd, 1) := by decide +kernel
theorem dX2_sendOn_19 : decode cX2_sendOn 19 = .ok (.istore_n 2, 1) := by decide +kernel
theorem dX2_sendOn_20 : decode cX2_sendOn 20 = .ok (.aload_n 0, 1) := by decide +kernel
theorem dX2_sendOn_21 : decode cX2_sendOn 21 = .ok (.getfield 12, 3) := by decide +kernel
theorem dX2_sendOn_24 : decode cX2_sendOn 24 = .ok (.getfield 75, 3) := by decide +kernel
theorem dX2_sendOn_27 : decode cX2_sendOn 27 = .ok (.iload_n 1, 1) := by decide +kernel
theorem dX2_sendOn_28 : decode cX2_sendOn 28 = .ok (.iaload, 1) := by decide +kernel
theorem dX2_sendOn_29 : decode cX2_sendOn 29 = .ok (.istore_n 3, 1) := by decide +kernel
theorem dX2_sendOn_30 : decode cX2_sendOn 30 = .ok (.iload_n 3, 1) := by decide +kernel
theorem dX2_sendOn_31 : decode cX2_sendOn 31 = .ok (.ifCond .le 31, 3) := by decide +kernel
theorem dX2_sendOn_34 : decode cX2_sendOn 34 = .ok (.aload_n 0, 1) := by decide +kernel
theorem dX2_sendOn_35 : decode cX2_sendOn 35 = .ok (.getfield 21, 3) := by decide +kernel
theorem dX2_sendOn_38 : decode cX2_sendOn 38 = .ok (.getfield 200, 3) := by decide +kernel
theorem dX2_sendOn_41 : decode cX2_sendOn 41 = .ok (.iload_n 1, 1) := by decide +kernel
theorem dX2_sendOn_42 : decode cX2_sendOn 42 = .ok (.dup2, 1) := by decide +kernel
theorem dX2_sendOn_43 : decode cX2_sendOn 43 = .ok (.laload, 1) := by decide +kernel
theorem dX2_sendOn_44 : decode cX2_sendOn 44 = .ok (.iload_n 2, 1) := by decide +kernel
theorem dX2_sendOn_45 : decode cX2_sendOn 45 = .ok (.iload_n 3, 1) := by decide +kernel
theorem dX2_sendOn_46 : decode cX2_sendOn 46 = .ok (.idiv, 1) := by decide +kernel
theorem dX2_sendOn_47 : decode cX2_sendOn 47 = .ok (.i2l, 1) := by decide +kernel
theorem dX2_sendOn_48 : decode cX2_sendOn 48 = .ok (.ladd, 1) := by decide +kernel
theorem dX2_sendOn_49 : decode cX2_sendOn 49 = .ok (.lastore, 1) := by decide +kernel
theorem dX2_sendOn_50 : decode cX2_sendOn 50 = .ok (.aload_n 0, 1) := by decide +kernel
theorem dX2_sendOn_51 : decode cX2_sendOn 51 = .ok (.getfield 21, 3) := by decide +kernel
theorem dX2_sendOn_54 : decode cX2_sendOn 54 = .ok (.getfield 62, 3) := by decide +kernel
theorem dX2_sendOn_57 : decode cX2_sendOn 57 = .ok (.iload_n 1, 1) := by decide +kernel
theorem dX2_sendOn_58 : decode cX2_sendOn 58 = .ok (.iload_n 2, 1) := by decide +kernel
theorem dX2_sendOn_59 : decode cX2_sendOn 59 = .ok (.iload_n 3, 1) := by decide +kernel
theorem dX2_sendOn_60 : decode cX2_sendOn 60 = .ok (.irem, 1) := by decide +kernel
theorem dX2_sendOn_61 : decode cX2_sendOn 61 = .ok (.iastore, 1) := by decide +kernel
theorem dX2_sendOn_62 : decode cX2_sendOn 62 = .ok (.return_, 1) := by decide +kernel
theorem dX2_sendToPacketEnd_0 : decode cX2_sendToPacketEnd 0 = .ok (.aload_n 0, 1) := by decide +kernel
theorem dX2_sendToPacketEnd_1 : decode cX2_sendToPacketEnd 1 = .ok (.getfield 21, 3) := by decide +kernel
theorem dX2_sendToPacketEnd_4 : decode cX2_sendToPacketEnd 4 = .ok (.getfield 62, 3) := by decide +kernel
theorem dX2_sendToPacketEnd_7 : decode cX2_sendToPacketEnd 7 = .ok (.iload_n 1, 1) := by decide +kernel
theorem dX2_sendToPacketEnd_8 : decode cX2_sendToPacketEnd 8 = .ok (.iaload, 1) := by decide +kernel
theorem dX2_sendToPacketEnd_9 : decode cX2_sendToPacketEnd 9 = .ok (.aload_n 0, 1) := by decide +kernel
theorem dX2_sendToPacketEnd_10 : decode cX2_sendToPacketEnd 10 = .ok (.getfield 12, 3) := by decide +kernel
theorem dX2_sendToPacketEnd_13 : decode cX2_sendToPacketEnd 13 = .ok (.getfield 59, 3) := by decide +kernel
theorem dX2_sendToPacketEnd_16 : decode cX2_sendToPacketEnd 16 = .ok (.iload_n 1, 1) := by decide +kernel
theorem dX2_sendToPacketEnd_17 : decode cX2_sendToPacketEnd 17 = .ok (.iaload, 1) := by decide +kernel
theorem dX2_sendToPacketEnd_18 : decode cX2_sendToPacketEnd 18 = .ok (.iadd, 1) := by decide +kernel
theorem dX2_sendToPacketEnd_19 : decode cX2_sendToPacketEnd 19 = .ok (.istore_n 2, 1) := by decide +kernel
theorem dX2_sendToPacketEnd_20 : decode cX2_sendToPacketEnd 20 = .ok (.iload_n 2, 1) := by decide +kernel
theorem dX2_sendToPacketEnd_21 : decode cX2_sendToPacketEnd 21 = .ok (.aload_n 0, 1) := by decide +kernel
theorem dX2_sendToPacketEnd_22 : decode cX2_sendToPacketEnd 22 = .ok (.getfield 12, 3) := by decide +kernel
theorem dX2_sendToPacketEnd_25 : decode cX2_sendToPacketEnd 25 = .ok (.getfield 75, 3) := by decide +kernel
theorem dX2_sendToPacketEnd_28 : decode cX2_sendToPacketEnd 28 = .ok (.iload_n 1, 1) := by decide +kernel
theorem dX2_sendToPacketEnd_29 : decode cX2_sendToPacketEnd 29 = .ok (.iaload, 1) := by decide +kernel
theorem dX2_sendToPacketEnd_30 : decode cX2_sendToPacketEnd 30 = .ok (.if_icmp .lt 18, 3) := by decide +kernel
theorem dX2_sendToPacketEnd_33 : decode cX2_sendToPacketEnd 33 = .ok (.aload_n 0, 1) := by decide +kernel
theorem dX2_sendToPacketEnd_34 : decode cX2_sendToPacketEnd 34 = .ok (.getfield 21, 3) := by decide +kernel
theorem dX2_sendToPacketEnd_37 : decode cX2_sendToPacketEnd 37 = .ok (.getfield 200, 3) := by decide +kernel
theorem dX2_sendToPacketEnd_40 : decode cX2_sendToPacketEnd 40 = .ok (.iload_n 1, 1) := by decide +kernel
theorem dX2_sendToPacketEnd_41 : decode cX2_sendToPacketEnd 41 = .ok (.dup2, 1) := by decide +kernel
theorem dX2_sendToPacketEnd_42 : decode cX2_sendToPacketEnd 42 = .ok (.laload, 1) := by decide +kernel
theorem dX2_sendToPacketEnd_43 : decode cX2_sendToPacketEnd 43 = .ok (.lconst 1, 1) := by decide +kernel
theorem dX2_sendToPacketEnd_44 : decode cX2_sendToPacketEnd 44 = .ok (.ladd, 1) := by decide +kernel
theorem dX2_sendToPacketEnd_45 : decode cX2_sendToPacketEnd 45 = .ok (.lastore, 1) := by decide +kernel
theorem dX2_sendToPacketEnd_46 : decode cX2_sendToPacketEnd 46 = .ok (.iconst 0, 1) := by decide +kernel
theorem dX2_sendToPacketEnd_47 : decode cX2_sendToPacketEnd 47 = .ok (.istore_n 2, 1) := by decide +kernel
theorem dX2_sendToPacketEnd_48 : decode cX2_sendToPacketEnd 48 = .ok (.aload_n 0, 1) := by decide +kernel
theorem dX2_sendToPacketEnd_49 : decode cX2_sendToPacketEnd 49 = .ok (.getfield 21, 3) := by decide +kernel
theorem dX2_sendToPacketEnd_52 : decode cX2_sendToPacketEnd 52 = .ok (.getfield 62, 3) := by decide +kernel
theorem dX2_sendToPacketEnd_55 : decode cX2_sendToPacketEnd 55 = .ok (.iload_n 1, 1) := by decide +kernel
theorem dX2_sendToPacketEnd_56 : decode cX2_sendToPacketEnd 56 = .ok (.iload_n 2, 1) := by decide +kernel
theorem dX2_sendToPacketEnd_57 : decode cX2_sendToPacketEnd 57 = .ok (.iastore, 1) := by decide +kernel
theorem dX2_sendToPacketEnd_58 : decode cX2_sendToPacketEnd 58 = .ok (.return_, 1) := by decide +kernel
theorem dX3_init_0 : decode cX3_init 0 = .ok (.aload_n 0, 1) := by decide +kernel
theorem dX3_init_1 : decode cX3_init 1 = .ok (.invokespecial 3, 3) := by decide +kernel
theorem dX3_init_4 : decode cX3_init 4 = .ok (.aload_n 0, 1) := by decide +kernel
theorem dX3_init_5 : decode cX3_init 5 = .ok (.bipush 24, 2) := by decide +kernel
theorem dX3_init_7 : decode cX3_init 7 = .ok (.newarray .int, 2) := by decide +kernel
theorem dX3_init_9 : decode cX3_init 9 = .ok (.putfield 11, 3) := by decide +kernel
theorem dX3_init_12 : decode cX3_init 12 = .ok (.aload_n 0, 1) := by decide +kernel
theorem dX3_init_13 : decode cX3_init 13 = .ok (.bipush 24, 2) := by decide +kernel
theorem dX3_init_15 : decode cX3_init 15 = .ok (.newarray .int, 2) := by decide +kernel
theorem dX3_init_17 : decode cX3_init 17 = .ok (.putfield 15, 3) := by decide +kernel
theorem dX3_init_20 : decode cX3_init 20 = .ok (.aload_n 0, 1) := by decide +kernel
theorem dX3_init_21 : decode cX3_init 21 = .ok (.bipush 24, 2) := by decide +kernel
theorem dX3_init_23 : decode cX3_init 23 = .ok (.newarray .int, 2) := by decide +kernel
theorem dX3_init_25 : decode cX3_init 25 = .ok (.putfield 18, 3) := by decide +kernel
theorem dX3_init_28 : decode cX3_init 28 = .ok (.aload_n 0, 1) := by decide +kernel
theorem dX3_init_29 : decode cX3_init 29 = .ok (.bipush 10, 2) := by decide +kernel
theorem dX3_init_31 : decode cX3_init 31 = .ok (.newarray .int, 2) := by decide +kernel
theorem dX3_init_33 : decode cX3_init 33 = .ok (.putfield 21, 3) := by decide +kernel
theorem dX3_init_36 : decode cX3_init 36 = .ok (.return_, 1) := by decide +kernel
theorem dX3_clear_0 : decode cX3_clear 0 = .ok (.aload_n 0, 1) := by decide +kernel
theorem dX3_clear_1 : decode cX3_clear 1 = .ok (.iconst 0, 1) := by decide +kernel
theorem dX3_clear_2 : decode cX3_clear 2 = .ok (.putfield 24, 3) := by decide +kernel
theorem dX3_clear_5 : decode cX3_clear 5 = .ok (.aload_n 0, 1) := by decide +kernel
theorem dX3_clear_6 : decode cX3_clear 6 = .ok (.iconst 0, 1) := by decide +kernel
theorem dX3_clear_7 : decode cX3_clear 7 = .ok (.putfield 28, 3) := by decide +kernel
theorem dX3_clear_10 : decode cX3_clear 10 = .ok (.iconst 0, 1) := by decide +kernel
theorem dX3_clear_11 : decode cX3_clear 11 = .ok (.istore_n 1, 1) := by decide +kernel
theorem dX3_clear_12 : decode cX3_clear 12 = .ok (.iload_n 1, 1) := by decide +kernel
theorem dX3_clear_13 : decode cX3_clear 13 = .ok (.bipush 10, 2) := by decide +kernel
theorem dX3_clear_15 : decode cX3_clear 15 = .ok (.if_icmp .ge 16, 3) := by decide +kernel
theorem dX3_clear_18 : decode cX3_clear 18 = .ok (.aload_n 0, 1) := by decide +kernel
theorem dX3_clear_19 : decode cX3_clear 19 = .ok (.getfield 21, 3) := by decide +kernel
theorem dX3_clear_22 : decode cX3_clear 22 = .ok (.iload_n 1, 1) := by decide +kernel
theorem dX3_clear_23 : decode cX3_clear 23 = .ok (.iconst 0, 1) := by decide +kernel
theorem dX3_clear_24 : decode cX3_clear 24 = .ok (.iastore, 1) := by decide +kernel
theorem dX3_clear_25 : decode cX3_clear 25 = .ok (.iinc 1 1, 3) := by decide +kernel
theorem dX3_clear_28 : decode cX3_clear 28 = .ok (.goto (-16), 3) := by decide +kernel
theorem dX3_clear_31 : decode cX3_clear 31 = .ok (.return_, 1) := by decide +kernel
theorem dX3_copyFrom_0 : decode cX3_copyFrom 0 = .ok (.aload_n 0, 1) := by decide +kernel
theorem dX3_copyFrom_1 : decode cX3_copyFrom 1 = .ok (.aload_n 1, 1) := by decide +kernel
theorem dX3_copyFrom_2 : decode cX3_copyFrom 2 = .ok (.getfield 24, 3) := by decide +kernel
theorem dX3_copyFrom_5 : decode cX3_copyFrom 5 = .ok (.putfield 24, 3) := by decide +kernel
theorem dX3_copyFrom_8 : decode cX3_copyFrom 8 = .ok (.aload_n 0, 1) := by decide +kernel
theorem dX3_copyFrom_9 : decode cX3_copyFrom 9 = .ok (.aload_n 1, 1) := by decide +kernel
theorem dX3_copyFrom_10 : decode cX3_copyFrom 10 = .ok (.getfield 28, 3) := by decide +kernel
theorem dX3_copyFrom_13 : decode cX3_copyFrom 13 = .ok (.putfield 28, 3) := by decide +kernel
theorem dX3_copyFrom_16 : decode cX3_copyFrom 16 = .ok (.aload_n 1, 1) := by decide +kernel
theorem dX3_copyFrom_17 : decode cX3_copyFrom 17 = .ok (.getfield 11, 3) := by decide +kernel
theorem dX3_copyFrom_20 : decode cX3_copyFrom 20 = .ok (.iconst 0, 1) := by decide +kernel
theorem dX3_copyFrom_21 : decode cX3_copyFrom 21 = .ok (.aload_n 0, 1) := by decide +kernel
theorem dX3_copyFrom_22 : decode cX3_copyFrom 22 = .ok (.getfield 11, 3) := by decide +kernel
theorem dX3_copyFrom_25 : decode cX3_copyFrom 25 = .ok (.iconst 0, 1) := by decide +kernel
theorem dX3_copyFrom_26 : decode cX3_copyFrom 26 = .ok (.bipush 24, 2) := by decide +kernel
theorem dX3_copyFrom_28 : decode cX3_copyFrom 28 = .ok (.invokestatic 31, 3) := by decide +kernel
theorem dX3_copyFrom_31 : decode cX3_copyFrom 31 = .ok (.aload_n 1, 1) := by decide +kernel
theorem dX3_copyFrom_32 : decode cX3_copyFrom 32 = .ok (.getfield 15, 3) := by decide +kernel
theorem dX3_copyFrom_35 : decode cX3_copyFrom 35 = .ok (.iconst 0, 1) := by decide +kernel
theorem dX3_copyFrom_36 : decode cX3_copyFrom 36 = .ok (.aload_n 0, 1) := by decide +kernel
theorem dX3_copyFrom_37 : decode cX3_copyFrom 37 = .ok (.getfield 15, 3) := by decide +kernel
theorem dX3_copyFrom_40 : decode cX3_copyFrom 40 = .ok (.iconst 0, 1) := by decide +kernel
theorem dX3_copyFrom_41 : decode cX3_copyFrom 41 = .ok (.bipush 24, 2) := by decide +kernel
theorem dX3_copyFrom_43 : decode cX3_copyFrom 43 = .ok (.invokestatic 31, 3) := by decide +kernel
theorem dX3_copyFrom_46 : decode cX3_copyFrom 46 = .ok (.aload_n 1, 1) := by decide +kernel
theorem dX3_copyFrom_47 : decode cX3_copyFrom 47 = .ok (.getfield 18, 3) := by decide +kernel
theorem dX3_copyFrom_50 : decode cX3_copyFrom 50 = .ok (.iconst 0, 1) := by decide +kernel
theorem dX3_copyFrom_51 : decode cX3_copyFrom 51 = .ok (.aload_n 0, 1) := by decide +kernel
theorem dX3_copyFrom_52 : decode cX3_copyFrom 52 = .ok (.getfield 18, 3) := by decide +kernel
theorem dX3_copyFrom_55 : decode cX3_copyFrom 55 = .ok (.iconst 0, 1) := by decide +kernel
theorem dX3_copyFrom_56 : decode cX3_copyFrom 56 = .ok (.bipush 24, 2) := by decide +kernel
theorem dX3_copyFrom_58 : decode cX3_copyFrom 58 = .ok (.invokestatic 31, 3) := by decide +kernel
theorem dX3_copyFrom_61 : decode cX3_copyFrom 61 = .ok (.aload_n 1, 1) := by decide +kernel
theorem dX3_copyFrom_62 : decode cX3_copyFrom 62 = .ok (.getfield 21, 3) := by decide +kernel
theorem dX3_copyFrom_65 : decode cX3_copyFrom 65 = .ok (.iconst 0, 1) := by decide +kernel
theorem dX3_copyFrom_66 : decode cX3_copyFrom 66 = .ok (.aload_n 0, 1) := by decide +kernel
theorem dX3_copyFrom_67 : decode cX3_copyFrom 67 = .ok (.getfield 21, 3) := by decide +kernel
theorem dX3_copyFrom_70 : decode cX3_copyFrom 70 = .ok (.iconst 0, 1) := by decide +kernel
theorem dX3_copyFrom_71 : decode cX3_copyFrom 71 = .ok (.bipush 10, 2) := by decide +kernel
theorem dX3_copyFrom_73 : decode cX3_copyFrom 73 = .ok (.invokestatic 31, 3) := by decide +kernel
theorem dX3_copyFrom_76 : decode cX3_copyFrom 76 = .ok (.return_, 1) := by decide +kernel
theorem dX3_add_0 : decode cX3_add 0 = .ok (.iload_n 1, 1) := by decide +kernel
theorem dX3_add_1 : decode cX3_add 1 = .ok (.ifCond .lt 19, 3) := by decide +kernel
theorem dX3_add_4 : decode cX3_add 4 = .ok (.iload_n 1, 1) := by decide +kernel
theorem dX3_add_5 : decode cX3_add 5 = .ok (.bipush 10, 2) := by decide +kernel
theorem dX3_add_7 : decode cX3_add 7 = .ok (.if_icmp .ge 13, 3) := by decide +kernel
theorem dX3_add_10 : decode cX3_add 10 = .ok (.aload_n 0, 1) := by decide +kernel
theorem dX3_add_11 : decode cX3_add 11 = .ok (.getfield 21, 3) := by decide +kernel
theorem dX3_add_14 : decode cX3_add 14 = .ok (.iload_n 1, 1) := by decide +kernel
theorem dX3_add_15 : decode cX3_add 15 = .ok (.dup2, 1) := by decide +kernel
theorem dX3_add_16 : decode cX3_add 16 = .ok (.iaload, 1) := by decide +kernel
theorem dX3_add_17 : decode cX3_add 17 = .ok (.iconst 1, 1) := by decide +kernel
theorem dX3_add_18 : decode cX3_add 18 = .ok (.iadd, 1) := by decide +kernel
theorem dX3_add_19 : decode cX3_add 19 = .ok (.iastore, 1) := by decide +kernel
theorem dX3_add_20 : decode cX3_add 20 = .ok (.aload_n 0, 1) := by decide +kernel
theorem dX3_add_21 : decode cX3_add 21 = .ok (.getfield 28, 3) := by decide +kernel
theorem dX3_add_24 : decode cX3_add 24 = .ok (.ifCond .lt 12, 3) := by decide +kernel
theorem dX3_add_27 : decode cX3_add 27 = .ok (.aload_n 0, 1) := by decide +kernel
theorem dX3_add_28 : decode cX3_add 28 = .ok (.getfield 28, 3) := by decide +kernel
theorem dX3_add_31 : decode cX3_add 31 = .ok (.bipush 24, 2) := by decide +kernel
theorem dX3_add_33 : decode cX3_add 33 = .ok (.if_icmp .lt 8, 3) := by decide +kernel
theorem dX3_add_36 : decode cX3_add 36 = .ok (.aload_n 0, 1) := by decide +kernel
theorem dX3_add_37 : decode cX3_add 37 = .ok (.iconst 0, 1) := by decide +kernel
theorem dX3_add_38 : decode cX3_add 38 = .ok (.putfield 28, 3) := by decide +kernel
theorem dX3_add_41 : decode cX3_add 41 = .ok (.aload_n 0, 1) := by decide +kernel
theorem dX3_add_42 : decode cX3_add 42 = .ok (.getfield 11, 3) := by decide +kernel
theorem dX3_add_45 : decode cX3_add 45 = .ok (.aload_n 0, 1) := by decide +kernel
theorem dX3_add_46 : decode cX3_add 46 = .ok (.getfield 28, 3) := by decide +kernel
theorem dX3_add_49 : decode cX3_add 49 = .ok (.iload_n 1, 1) := by decide +kernel
theorem dX3_add_50 : decode cX3_add 50 = .ok (.iastore, 1) := by decide +kernel
theorem dX3_add_51 : decode cX3_add 51 = .ok (.aload_n 0, 1) := by decide +kernel
theorem dX3_add_52 : decode cX3_add 52 = .ok (.getfield 15, 3) := by decide +kernel
theorem dX3_add_55 : decode cX3_add 55 = .ok (.aload_n 0, 1) := by decide +kernel
theorem dX3_add_56 : decode cX3_add 56 = .ok (.getfield 28, 3) := by decide +kernel
theorem dX3_add_59 : decode cX3_add 59 = .ok (.iload_n 2, 1) := by decide +kernel
theorem dX3_add_60 : decode cX3_add 60 = .ok (.iastore, 1) := by decide +kernel
theorem dX3_add_61 : decode cX3_add 61 = .ok (.aload_n 0, 1) := by decide +kernel
theorem dX3_add_62 : decode cX3_add 62 = .ok (.getfield 18, 3) := by decide +kernel
theorem dX3_add_65 : decode cX3_add 65 = .ok (.aload_n 0, 1) := by decide +kernel
theorem dX3_add_66 : decode cX3_add 66 = .ok (.getfield 28, 3) := by decide +kernel
theorem dX3_add_69 : decode cX3_add 69 = .ok (.iload_n 3, 1) := by decide +kernel
theorem dX3_add_70 : decode cX3_add 70 = .ok (.iastore, 1) := by decide +kernel
theorem dX3_add_71 : decode cX3_add 71 = .ok (.aload_n 0, 1) := by decide +kernel
theorem dX3_add_72 : decode cX3_add 72 = .ok (.dup, 1) := by decide +kernel
theorem dX3_add_73 : decode cX3_add 73 = .ok (.getfield 28, 3) := by decide +kernel
theorem dX3_add_76 : decode cX3_add 76 = .ok (.iconst 1, 1) := by decide +kernel
theorem dX3_add_77 : decode cX3_add 77 = .ok (.iadd, 1) := by decide +kernel
theorem dX3_add_78 : decode cX3_add 78 = .ok (.putfield 28, 3) := by decide +kernel
theorem dX3_add_81 : decode cX3_add 81 = .ok (.aload_n 0, 1) := by decide +kernel
theorem dX3_add_82 : decode cX3_add 82 = .ok (.aload_n 0, 1) := by decide +kernel
theorem dX3_add_83 : decode cX3_add 83 = .ok (.getfield 24, 3) := by decide +kernel
theorem dX3_add_86 : decode cX3_add 86 = .ok (.iconst 1, 1) := by decide +kernel
theorem dX3_add_87 : decode cX3_add 87 = .ok (.iadd, 1) := by decide +kernel
theorem dX3_add_88 : decode cX3_add 88 = .ok (.bipush 24, 2) := by decide +kernel
theorem dX3_add_90 : decode cX3_add 90 = .ok (.invokestatic 37, 3) := by decide +kernel
theorem dX3_add_93 : decode cX3_add 93 = .ok (.putfield 24, 3) := by decide +kernel
theorem dX3_add_96 : decode cX3_add 96 = .ok (.return_, 1) := by decide +kernel
theorem dX3_partOf_0 : decode cX3_partOf 0 = .ok (.iload_n 1, 1) := by decide +kernel
theorem dX3_partOf_1 : decode cX3_partOf 1 = .ok (.ifCond .lt 11, 3) := by decide +kernel
theorem dX3_partOf_4 : decode cX3_partOf 4 = .ok (.iload_n 1, 1) := by decide +kernel
theorem dX3_partOf_5 : decode cX3_partOf 5 = .ok (.aload_n 0, 1) := by decide +kernel
theorem dX3_partOf_6 : decode cX3_partOf 6 = .ok (.getfield 24, 3) := by decide +kernel
theorem dX3_partOf_9 : decode cX3_partOf 9 = .ok (.if_icmp .lt 5, 3) := by decide +kernel
theorem dX3_partOf_12 : decode cX3_partOf 12 = .ok (.iconst (-1), 1) := by decide +kernel
theorem dX3_partOf_13 : decode cX3_partOf 13 = .ok (.ireturn, 1) := by decide +kernel
theorem dX3_partOf_14 : decode cX3_partOf 14 = .ok (.aload_n 0, 1) := by decide +kernel
theorem dX3_partOf_15 : decode cX3_partOf 15 = .ok (.getfield 28, 3) := by decide +kernel
theorem dX3_partOf_18 : decode cX3_partOf 18 = .ok (.iconst 1, 1) := by decide +kernel
theorem dX3_partOf_19 : decode cX3_partOf 19 = .ok (.isub, 1) := by decide +kernel
theorem dX3_partOf_20 : decode cX3_partOf 20 = .ok (.iload_n 1, 1) := by decide +kernel
theorem dX3_partOf_21 : decode cX3_partOf 21 = .ok (.isub, 1) := by decide +kernel
theorem dX3_partOf_22 : decode cX3_partOf 22 = .ok (.bipush 24, 2) := by decide +kernel
theorem dX3_partOf_24 : decode cX3_partOf 24 = .ok (.invokestatic 43, 3) := by decide +kernel
theorem dX3_partOf_27 : decode cX3_partOf 27 = .ok (.istore_n 3, 1) := by decide +kernel
theorem dX3_partOf_28 : decode cX3_partOf 28 = .ok (.iload_n 2, 1) := by decide +kernel
theorem dX3_partOf_29 : decode cX3_partOf 29 = .ok (.lookupswitch 41 #[(0, 27), (1, 34)], 27) := by decide +kernel
theorem dX3_partOf_56 : decode cX3_partOf 56 = .ok (.aload_n 0, 1) := by decide +kernel
theorem dX3_partOf_57 : decode cX3_partOf 57 = .ok (.getfield 11, 3) := by decide +kernel
theorem dX3_partOf_60 : decode cX3_partOf 60 = .ok (.iload_n 3, 1) := by decide +kernel
theorem dX3_partOf_61 : decode cX3_partOf 61 = .ok (.iaload, 1) := by decide +kernel
theorem dX3_partOf_62 : decode cX3_partOf 62 = .ok (.ireturn, 1) := by decide +kernel
theorem dX3_partOf_63 : decode cX3_partOf 63 = .ok (.aload_n 0, 1) := by decide +kernel
theorem dX3_partOf_64 : decode cX3_partOf 64 = .ok (.getfield 15, 3) := by decide +kernel
theorem dX3_partOf_67 : decode cX3_partOf 67 = .ok (.iload_n 3, 1) := by decide +kernel
theorem dX3_partOf_68 : decode cX3_partOf 68 = .ok (.iaload, 1) := by decide +kernel
theorem dX3_partOf_69 : decode cX3_partOf 69 = .ok (.ireturn, 1) := by decide +kernel
theorem dX3_partOf_70 : decode cX3_partOf 70 = .ok (.aload_n 0, 1) := by decide +kernel
theorem dX3_partOf_71 : decode cX3_partOf 71 = .ok (.getfield 18, 3) := by decide +kernel
theorem dX3_partOf_74 : decode cX3_partOf 74 = .ok (.iload_n 3, 1) := by decide +kernel
theorem dX3_partOf_75 : decode cX3_partOf 75 = .ok (.iaload, 1) := by decide +kernel
theorem dX3_partOf_76 : decode cX3_partOf 76 = .ok (.ireturn, 1) := by decide +kernel
theorem dX4_init_0 : decode cX4_init 0 = .ok (.aload_n 0, 1) := by decide +kernel
theorem dX4_init_1 : decode cX4_init 1 = .ok (.invokespecial 3, 3) := by decide +kernel
theorem dX4_init_4 : decode cX4_init 4 = .ok (.aload_n 0, 1) := by decide +kernel
theorem dX4_init_5 : decode cX4_init 5 = .ok (.bipush 6, 2) := by decide +kernel
theorem dX4_init_7 : decode cX4_init 7 = .ok (.newarray .int, 2) := by decide +kernel
theorem dX4_init_9 : decode cX4_init 9 = .ok (.putfield 9, 3) := by decide +kernel
theorem dX4_init_12 : decode cX4_init 12 = .ok (.aload_n 0, 1) := by decide +kernel
theorem dX4_init_13 : decode cX4_init 13 = .ok (.bipush 6, 2) := by decide +kernel
theorem dX4_init_15 : decode cX4_init 15 = .ok (.newarray .int, 2) := by decide +kernel
theorem dX4_init_17 : decode cX4_init 17 = .ok (.putfield 15, 3) := by decide +kernel
theorem dX4_init_20 : decode cX4_init 20 = .ok (.aload_n 0, 1) := by decide +kernel
theorem dX4_init_21 : decode cX4_init 21 = .ok (.bipush 6, 2) := by decide +kernel
theorem dX4_init_23 : decode cX4_init 23 = .ok (.newarray .int, 2) := by decide +kernel
theorem dX4_init_25 : decode cX4_init 25 = .ok (.putfield 18, 3) := by decide +kernel
theorem dX4_init_28 : decode cX4_init 28 = .ok (.aload_n 0, 1) := by decide +kernel
theorem dX4_init_29 : decode cX4_init 29 = .ok (.bipush 30, 2) := by decide +kernel
theorem dX4_init_31 : decode cX4_init 31 = .ok (.newarray .int, 2) := by decide +kernel
theorem dX4_init_33 : decode cX4_init 33 = .ok (.putfield 21, 3) := by decide +kernel
theorem dX4_init_36 : decode cX4_init 36 = .ok (.aload_n 0, 1) := by decide +kernel
theorem dX4_init_37 : decode cX4_init 37 = .ok (.bipush 8, 2) := by decide +kernel
theorem dX4_init_39 : decode cX4_init 39 = .ok (.newarray .int, 2) := by decide +kernel
theorem dX4_init_41 : decode cX4_init 41 = .ok (.putfield 24, 3) := by decide +kernel
theorem dX4_init_44 : decode cX4_init 44 = .ok (.aload_n 0, 1) := by decide +kernel
theorem dX4_init_45 : decode cX4_init 45 = .ok (.bipush 8, 2) := by decide +kernel
theorem dX4_init_47 : decode cX4_init 47 = .ok (.newarray .int, 2) := by decide +kernel
theorem dX4_init_49 : decode cX4_init 49 = .ok (.putfield 27, 3) := by decide +kernel
theorem dX4_init_52 : decode cX4_init 52 = .ok (.aload_n 0, 1) := by decide +kernel
theorem dX4_init_53 : decode cX4_init 53 = .ok (.bipush 12, 2) := by decide +kernel
theorem dX4_init_55 : decode cX4_init 55 = .ok (.newarray .int, 2) := by decide +kernel
theorem dX4_init_57 : decode cX4_init 57 = .ok (.putfield 30, 3) := by decide +kernel
theorem dX4_init_60 : decode cX4_init 60 = .ok (.aload_n 0, 1) := by decide +kernel
theorem dX4_init_61 : decode cX4_init 61 = .ok (.bipush 12, 2) := by decide +kernel
theorem dX4_init_63 : decode cX4_init 63 = .ok (.newarray .int, 2) := by decide +kernel
theorem dX4_init_65 : decode cX4_init 65 = .ok (.putfield 33, 3) := by decide +kernel
theorem dX4_init_68 : decode cX4_init 68 = .ok (.aload_n 0, 1) := by decide +kernel
theorem dX4_init_69 : decode cX4_init 69 = .ok (.bipush 12, 2) := by decide +kernel
theorem dX4_init_71 : decode cX4_init 71 = .ok (.newarray .int, 2) := by decide +kernel
theorem dX4_init_73 : decode cX4_init 73 = .ok (.putfield 36, 3) := by decide +kernel
theorem dX4_init_76 : decode cX4_init 76 = .ok (.aload_n 0, 1) := by decide +kernel
theorem dX4_init_77 : decode cX4_init 77 = .ok (.invokevirtual 39, 3) := by decide +kernel
theorem dX4_init_80 : decode cX4_init 80 = .ok (.return_, 1) := by decide +kernel
theorem dX4_clear_0 : decode cX4_clear 0 = .ok (.aload_n 0, 1) := by decide +kernel
theorem dX4_clear_1 : decode cX4_clear 1 = .ok (.iconst 1, 1) := by decide +kernel
theorem dX4_clear_2 : decode cX4_clear 2 = .ok (.putfield 42, 3) := by decide +kernel
theorem dX4_clear_5 : decode cX4_clear 5 = .ok (.aload_n 0, 1) := by decide +kernel
theorem dX4_clear_6 : decode cX4_clear 6 = .ok (.iconst 1, 1) := by decide +kernel
theorem dX4_clear_7 : decode cX4_clear 7 = .ok (.putfield 46, 3) := by decide +kernel
theorem dX4_clear_10 : decode cX4_clear 10 = .ok (.aload_n 0, 1) := by decide +kernel
theorem dX4_clear_11 : decode cX4_clear 11 = .ok (.bipush 10, 2) := by decide +kernel
theorem dX4_clear_13 : decode cX4_clear 13 = .ok (.putfield 49, 3) := by decide +kernel
theorem dX4_clear_16 : decode cX4_clear 16 = .ok (.aload_n 0, 1) := by decide +kernel
theorem dX4_clear_17 : decode cX4_clear 17 = .ok (.iconst 5, 1) := by decide +kernel
theorem dX4_clear_18 : decode cX4_clear 18 = .ok (.putfield 52, 3) := by decide +kernel
theorem dX4_clear_21 : decode cX4_clear 21 = .ok (.aload_n 0, 1) := by decide +kernel
theorem dX4_clear_22 : decode cX4_clear 22 = .ok (.iconst 0, 1) := by decide +kernel
theorem dX4_clear_23 : decode cX4_clear 23 = .ok (.putfield 55, 3) := by decide +kernel
theorem dX4_clear_26 : decode cX4_clear 26 = .ok (.aload_n 0, 1) := by decide +kernel
theorem dX4_clear_27 : decode cX4_clear 27 = .ok (.iconst 0, 1) := by decide +kernel
theorem dX4_clear_28 : decode cX4_clear 28 = .ok (.putfield 58, 3) := by decide +kernel
theorem dX4_clear_31 : decode cX4_clear 31 = .ok (.aload_n 0, 1) := by decide +kernel
theorem dX4_clear_32 : decode cX4_clear 32 = .ok (.iconst 0, 1) := by decide +kernel
theorem dX4_clear_33 : decode cX4_clear 33 = .ok (.putfield 61, 3) := by decide +kernel
theorem dX4_clear_36 : decode cX4_clear 36 = .ok (.return_, 1) := by decide +kernel
theorem dX5_init_0 : decode cX5_init 0 = .ok (.aload_n 0, 1) := by decide +kernel
theorem dX5_init_1 : decode cX5_init 1 = .ok (.invokespecial 3, 3) := by decide +kernel
theorem dX5_init_4 : decode cX5_init 4 = .ok (.aload_n 0, 1) := by decide +kernel
theorem dX5_init_5 : decode cX5_init 5 = .ok (.sipush 600, 3) := by decide +kernel
theorem dX5_init_8 : decode cX5_init 8 = .ok (.newarray .byte, 2) := by decide +kernel
theorem dX5_init_10 : decode cX5_init 10 = .ok (.putfield 9, 3) := by decide +kernel
theorem dX5_init_13 : decode cX5_init 13 = .ok (.aload_n 0, 1) := by decide +kernel
theorem dX5_init_14 : decode cX5_init 14 = .ok (.new 15, 3) := by decide +kernel
theorem dX5_init_17 : decode cX5_init 17 = .ok (.dup, 1) := by decide +kernel
theorem dX5_init_18 : decode cX5_init 18 = .ok (.invokespecial 17, 3) := by decide +kernel
theorem dX5_init_21 : decode cX5_init 21 = .ok (.putfield 18, 3) := by decide +kernel
theorem dX5_init_24 : decode cX5_init 24 = .ok (.aload_n 0, 1) := by decide +kernel
theorem dX5_init_25 : decode cX5_init 25 = .ok (.bipush 6, 2) := by decide +kernel
theorem dX5_init_27 : decode cX5_init 27 = .ok (.newarray .long, 2) := by decide +kernel
theorem dX5_init_29 : decode cX5_init 29 = .ok (.putfield 22, 3) := by decide +kernel
theorem dX5_init_32 : decode cX5_init 32 = .ok (.aload_n 0, 1) := by decide +kernel
theorem dX5_init_33 : decode cX5_init 33 = .ok (.bipush 8, 2) := by decide +kernel
theorem dX5_init_35 : decode cX5_init 35 = .ok (.newarray .long, 2) := by decide +kernel
theorem dX5_init_37 : decode cX5_init 37 = .ok (.putfield 26, 3) := by decide +kernel
theorem dX5_init_40 : decode cX5_init 40 = .ok (.aload_n 0, 1) := by decide +kernel
theorem dX5_init_41 : decode cX5_init 41 = .ok (.bipush 12, 2) := by decide +kernel
theorem dX5_init_43 : decode cX5_init 43 = .ok (.newarray .long, 2) := by decide +kernel
theorem dX5_init_45 : decode cX5_init 45 = .ok (.putfield 29, 3) := by decide +kernel
theorem dX5_init_48 : decode cX5_init 48 = .ok (.return_, 1) := by decide +kernel
theorem dX5_hasRoomFor_0 : decode cX5_hasRoomFor 0 = .ok (.aload_n 0, 1) := by decide +kernel
theorem dX5_hasRoomFor_1 : decode cX5_hasRoomFor 1 = .ok (.getfield 32, 3) := by decide +kernel
theorem dX5_hasRoomFor_4 : decode cX5_hasRoomFor 4 = .ok (.iload_n 1, 1) := by decide +kernel
theorem dX5_hasRoomFor_5 : decode cX5_hasRoomFor 5 = .ok (.iadd, 1) := by decide +kernel
theorem dX5_hasRoomFor_6 : decode cX5_hasRoomFor 6 = .ok (.sipush 600, 3) := by decide +kernel
theorem dX5_hasRoomFor_9 : decode cX5_hasRoomFor 9 = .ok (.if_icmp .gt 7, 3) := by decide +kernel
theorem dX5_hasRoomFor_12 : decode cX5_hasRoomFor 12 = .ok (.iconst 1, 1) := by decide +kernel
theorem dX5_hasRoomFor_13 : decode cX5_hasRoomFor 13 = .ok (.goto 4, 3) := by decide +kernel
theorem dX5_hasRoomFor_16 : decode cX5_hasRoomFor 16 = .ok (.iconst 0, 1) := by decide +kernel
theorem dX5_hasRoomFor_17 : decode cX5_hasRoomFor 17 = .ok (.ireturn, 1) := by decide +kernel
theorem dX5_addBytesOf_0 : decode cX5_addBytesOf 0 = .ok (.bipush 24, 2) := by decide +kernel
theorem dX5_addBytesOf_2 : decode cX5_addBytesOf 2 = .ok (.istore_n 2, 1) := by decide +kernel
theorem dX5_addBytesOf_3 : decode cX5_addBytesOf 3 = .ok (.iload_n 2, 1) := by decide +kernel
theorem dX5_addBytesOf_4 : decode cX5_addBytesOf 4 = .ok (.ifCond .lt 42, 3) := by decide +kernel
theorem dX5_addBytesOf_7 : decode cX5_addBytesOf 7 = .ok (.aload_n 0, 1) := by decide +kernel
theorem dX5_addBytesOf_8 : decode cX5_addBytesOf 8 = .ok (.getfield 32, 3) := by decide +kernel
theorem dX5_addBytesOf_11 : decode cX5_addBytesOf 11 = .ok (.sipush 600, 3) := by decide +kernel
theorem dX5_addBytesOf_14 : decode cX5_addBytesOf 14 = .ok (.if_icmp .ge 26, 3) := by decide +kernel
theorem dX5_addBytesOf_17 : decode cX5_addBytesOf 17 = .ok (.aload_n 0, 1) := by decide +kernel
theorem dX5_addBytesOf_18 : decode cX5_addBytesOf 18 = .ok (.getfield 9, 3) := by decide +kernel
theorem dX5_addBytesOf_21 : decode cX5_addBytesOf 21 = .ok (.aload_n 0, 1) := by decide +kernel
theorem dX5_addBytesOf_22 : decode cX5_addBytesOf 22 = .ok (.getfield 32, 3) := by decide +kernel
theorem dX5_addBytesOf_25 : decode cX5_addBytesOf 25 = .ok (.iload_n 1, 1) := by decide +kernel
theorem dX5_addBytesOf_26 : decode cX5_addBytesOf 26 = .ok (.iload_n 2, 1) := by decide +kernel
theorem dX5_addBytesOf_27 : decode cX5_addBytesOf 27 = .ok (.iushr, 1) := by decide +kernel
theorem dX5_addBytesOf_28 : decode cX5_addBytesOf 28 = .ok (.i2b, 1) := by decide +kernel
theorem dX5_addBytesOf_29 : decode cX5_addBytesOf 29 = .ok (.bastore, 1) := by decide +kernel
theorem dX5_addBytesOf_30 : decode cX5_addBytesOf 30 = .ok (.aload_n 0, 1) := by decide +kernel
theorem dX5_addBytesOf_31 : decode cX5_addBytesOf 31 = .ok (.dup, 1) := by decide +kernel
theorem dX5_addBytesOf_32 : decode cX5_addBytesOf 32 = .ok (.getfield 32, 3) := by decide +kernel
theorem dX5_addBytesOf_35 : decode cX5_addBytesOf 35 = .ok (.iconst 1, 1) := by decide +kernel
theorem dX5_addBytesOf_36 : decode cX5_addBytesOf 36 = .ok (.iadd, 1) := by decide +kernel
theorem dX5_addBytesOf_37 : decode cX5_addBytesOf 37 = .ok (.putfield 32, 3) := by decide +kernel
theorem dX5_addBytesOf_40 : decode cX5_addBytesOf 40 = .ok (.iinc 2 (-8), 3) := by decide +kernel
theorem dX5_addBytesOf_43 : decode cX5_addBytesOf 43 = .ok (.goto (-40), 3) := by decide +kernel
theorem dX5_addBytesOf_46 : decode cX5_addBytesOf 46 = .ok (.return_, 1) := by decide +kernel
theorem dX5_exchangePlan_0 : decode cX5_exchangePlan 0 = .ok (.aload_n 0, 1) := by decide +kernel
theorem dX5_exchangePlan_1 : decode cX5_exchangePlan 1 = .ok (.getfield 18, 3) := by decide +kernel
theorem dX5_exchangePlan_4 : decode cX5_exchangePlan 4 = .ok (.astore_n 2, 1) := by decide +kernel
theorem dX5_exchangePlan_5 : decode cX5_exchangePlan 5 = .ok (.aload_n 0, 1) := by decide +kernel
theorem dX5_exchangePlan_6 : decode cX5_exchangePlan 6 = .ok (.aload_n 1, 1) := by decide +kernel
theorem dX5_exchangePlan_7 : decode cX5_exchangePlan 7 = .ok (.putfield 18, 3) := by decide +kernel
theorem dX5_exchangePlan_10 : decode cX5_exchangePlan 10 = .ok (.aload_n 2, 1) := by decide +kernel
theorem dX5_exchangePlan_11 : decode cX5_exchangePlan 11 = .ok (.areturn, 1) := by decide +kernel
theorem dX5_faultAnswer_0 : decode cX5_faultAnswer 0 = .ok (.bipush (-2), 2) := by decide +kernel
theorem dX5_faultAnswer_2 : decode cX5_faultAnswer 2 = .ok (.bipush 8, 2) := by decide +kernel
theorem dX5_faultAnswer_4 : decode cX5_faultAnswer 4 = .ok (.aload_n 0, 1) := by decide +kernel
theorem dX5_faultAnswer_5 : decode cX5_faultAnswer 5 = .ok (.getfield 36, 3) := by decide +kernel
theorem dX5_faultAnswer_8 : decode cX5_faultAnswer 8 = .ok (.imul, 1) := by decide +kernel
theorem dX5_faultAnswer_9 : decode cX5_faultAnswer 9 = .ok (.aload_n 0, 1) := by decide +kernel
theorem dX5_faultAnswer_10 : decode cX5_faultAnswer 10 = .ok (.getfield 39, 3) := by decide +kernel
theorem dX5_faultAnswer_13 : decode cX5_faultAnswer 13 = .ok (.iadd, 1) := by decide +kernel
theorem dX5_faultAnswer_14 : decode cX5_faultAnswer 14 = .ok (.isub, 1) := by decide +kernel
theorem dX5_faultAnswer_15 : decode cX5_faultAnswer 15 = .ok (.ireturn, 1) := by decide +kernel
theorem dX5_read_0 : decode cX5_read 0 = .ok (.aload_n 0, 1) := by decide +kernel
theorem dX5_read_1 : decode cX5_read 1 = .ok (.iconst 0, 1) := by decide +kernel
theorem dX5_read_2 : decode cX5_read 2 = .ok (.iload_n 1, 1) := by decide +kernel
theorem dX5_read_3 : decode cX5_read 3 = .ok (.aload_n 0, 1) := by decide +kernel
theorem dX5_read_4 : decode cX5_read 4 = .ok (.getfield 32, 3) := by decide +kernel
theorem dX5_read_7 : decode cX5_read 7 = .ok (.invokestatic 42, 3) := by decide +kernel
theorem dX5_read_10 : decode cX5_read 10 = .ok (.invokestatic 48, 3) := by decide +kernel
theorem dX5_read_13 : decode cX5_read 13 = .ok (.putfield 51, 3) := by decide +kernel
theorem dX5_read_16 : decode cX5_read 16 = .ok (.aload_n 0, 1) := by decide +kernel
theorem dX5_read_17 : decode cX5_read 17 = .ok (.iconst 0, 1) := by decide +kernel
theorem dX5_read_18 : decode cX5_read 18 = .ok (.putfield 54, 3) := by decide +kernel
theorem dX5_read_21 : decode cX5_read 21 = .ok (.aload_n 0, 1) := by decide +kernel
theorem dX5_read_22 : decode cX5_read 22 = .ok (.iconst 0, 1) := by decide +kernel
theorem dX5_read_23 : decode cX5_read 23 = .ok (.putfield 57, 3) := by decide +kernel
theorem dX5_read_26 : decode cX5_read 26 = .ok (.aload_n 0, 1) := by decide +kernel
theorem dX5_read_27 : decode cX5_read 27 = .ok (.getfield 18, 3) := by decide +kernel
theorem dX5_read_30 : decode cX5_read 30 = .ok (.invokevirtual 61, 3) := by decide +kernel
theorem dX5_read_33 : decode cX5_read 33 = .ok (.aload_n 0, 1) := by decide +kernel
theorem dX5_read_34 : decode cX5_read 34 = .ok (.invokevirtual 64, 3) := by decide +kernel
theorem dX5_read_37 : decode cX5_read 37 = .ok (.aload_n 0, 1) := by decide +kernel
theorem dX5_read_38 : decode cX5_read 38 = .ok (.invokevirtual 67, 3) := by decide +kernel
theorem dX5_read_41 : decode cX5_read 41 = .ok (.ifCond .ne 5, 3) := by decide +kernel
theorem dX5_read_44 : decode cX5_read 44 = .ok (.iconst 0, 1) := by decide +kernel
theorem dX5_read_45 : decode cX5_read 45 = .ok (.ireturn, 1) := by decide +kernel
theorem dX5_read_46 : decode cX5_read 46 = .ok (.iconst 0, 1) := by decide +kernel
theorem dX5_read_47 : decode cX5_read 47 = .ok (.istore_n 2, 1) := by decide +kernel
theorem dX5_read_48 : decode cX5_read 48 = .ok (.iload_n 2, 1) := by decide +kernel
theorem dX5_read_49 : decode cX5_read 49 = .ok (.sipush 600, 3) := by decide +kernel
theorem dX5_read_52 : decode cX5_read 52 = .ok (.if_icmp .gt 27, 3) := by decide +kernel
theorem dX5_read_55 : decode cX5_read 55 = .ok (.aload_n 0, 1) := by decide +kernel
theorem dX5_read_56 : decode cX5_read 56 = .ok (.getfield 71, 3) := by decide +kernel
theorem dX5_read_59 : decode cX5_read 59 = .ok (.ifCond .ne 5, 3) := by decide +kernel
theorem dX5_read_62 : decode cX5_read 62 = .ok (.iconst 1, 1) := by decide +kernel
theorem dX5_read_63 : decode cX5_read 63 = .ok (.ireturn, 1) := by decide +kernel
theorem dX5_read_64 : decode cX5_read 64 = .ok (.aload_n 0, 1) := by decide +kernel
theorem dX5_read_65 : decode cX5_read 65 = .ok (.invokevirtual 74, 3) := by decide +kernel
theorem dX5_read_68 : decode cX5_read 68 = .ok (.ifCond .ne 5, 3) := by decide +kernel
theorem dX5_read_71 : decode cX5_read 71 = .ok (.iconst 0, 1) := by decide +kernel
theorem dX5_read_72 : decode cX5_read 72 = .ok (.ireturn, 1) := by decide +kernel
theorem dX5_read_73 : decode cX5_read 73 = .ok (.iinc 2 1, 3) := by decide +kernel
theorem dX5_read_76 : decode cX5_read 76 = .ok (.goto (-28), 3) := by decide +kernel
theorem dX5_read_79 : decode cX5_read 79 = .ok (.aload_n 0, 1) := by decide +kernel
theorem dX5_read_80 : decode cX5_read 80 = .ok (.iconst 1, 1) := by decide +kernel
theorem dX5_read_81 : decode cX5_read 81 = .ok (.invokevirtual 77, 3) := by decide +kernel
theorem dX5_read_84 : decode cX5_read 84 = .ok (.ireturn, 1) := by decide +kernel
theorem dX5_readHeader_0 : decode cX5_readHeader 0 = .ok (.aload_n 0, 1) := by decide +kernel
theorem dX5_readHeader_1 : decode cX5_readHeader 1 = .ok (.ldc 81, 2) := by decide +kernel
theorem dX5_readHeader_3 : decode cX5_readHeader 3 = .ok (.invokevirtual 83, 3) := by decide +kernel
theorem dX5_readHeader_6 : decode cX5_readHeader 6 = .ok (.ifCond .ne 9, 3) := by decide +kernel
theorem dX5_readHeader_9 : decode cX5_readHeader 9 = .ok (.aload_n 0, 1) := by decide +kernel
theorem dX5_readHeader_10 : decode cX5_readHeader 10 = .ok (.iconst 1, 1) := by decide +kernel
theorem dX5_readHeader_11 : decode cX5_readHeader 11 = .ok (.invokevirtual 77, 3) := by decide +kernel
theorem dX5_readHeader_14 : decode cX5_readHeader 14 = .ok (.ireturn, 1) := by decide +kernel
theorem dX5_readHeader_15 : decode cX5_readHeader 15 = .ok (.aload_n 0, 1) := by decide +kernel
theorem dX5_readHeader_16 : decode cX5_readHeader 16 = .ok (.invokevirtual 64, 3) := by decide +kernel
theorem dX5_readHeader_19 : decode cX5_readHeader 19 = .ok (.aload_n 0, 1) := by decide +kernel
theorem dX5_readHeader_20 : decode cX5_readHeader 20 = .ok (.iconst 1, 1) := by decide +kernel
theorem dX5_readHeader_21 : decode cX5_readHeader 21 = .ok (.sipush 999, 3) := by decide +kernel
theorem dX5_readHeader_24 : decode cX5_readHeader 24 = .ok (.invokevirtual 87, 3) := by decide +kernel
theorem dX5_readHeader_27 : decode cX5_readHeader 27 = .ok (.ifCond .ne 5, 3) := by decide +kernel
theorem dX5_readHeader_30 : decode cX5_readHeader 30 = .ok (.iconst 0, 1) := by decide +kernel
theorem dX5_readHeader_31 : decode cX5_readHeader 31 = .ok (.ireturn, 1) := by decide +kernel
theorem dX5_readHeader_32 : decode cX5_readHeader 32 = .ok (.aload_n 0, 1) := by decide +kernel
theorem dX5_readHeader_33 : decode cX5_readHeader 33 = .ok (.getfield 18, 3) := by decide +kernel
theorem dX5_readHeader_36 : decode cX5_readHeader 36 = .ok (.aload_n 0, 1) := by decide +kernel
theorem dX5_readHeader_37 : decode cX5_readHeader 37 = .ok (.getfield 91, 3) := by decide +kernel
theorem dX5_readHeader_40 : decode cX5_readHeader 40 = .ok (.l2i, 1) := by decide +kernel
theorem dX5_readHeader_41 : decode cX5_readHeader 41 = .ok (.putfield 95, 3) := by decide +kernel
theorem dX5_readHeader_44 : decode cX5_readHeader 44 = .ok (.aload_n 0, 1) := by decide +kernel
theorem dX5_readHeader_45 : decode cX5_readHeader 45 = .ok (.invokevirtual 64, 3) := by decide +kernel
theorem dX5_readHeader_48 : decode cX5_readHeader 48 = .ok (.aload_n 0, 1) := by decide +kernel
theorem dX5_readHeader_49 : decode cX5_readHeader 49 = .ok (.iconst 1, 1) := by decide +kernel
theorem dX5_readHeader_50 : decode cX5_readHeader 50 = .ok (.bipush 8, 2) := by decide +kernel
theorem dX5_readHeader_52 : decode cX5_readHeader 52 = .ok (.invokevirtual 87, 3) := by decide +kernel
theorem dX5_readHeader_55 : decode cX5_readHeader 55 = .ok (.ifCond .ne 5, 3) := by decide +kernel
theorem dX5_readHeader_58 : decode cX5_readHeader 58 = .ok (.iconst 0, 1) := by decide +kernel
theorem dX5_readHeader_59 : decode cX5_readHeader 59 = .ok (.ireturn, 1) := by decide +kernel
theorem dX5_readHeader_60 : decode cX5_readHeader 60 = .ok (.aload_n 0, 1) := by decide +kernel
theorem dX5_readHeader_61 : decode cX5_readHeader 61 = .ok (.getfield 18, 3) := by decide +kernel
theorem dX5_readHeader_64 : decode cX5_readHeader 64 = .ok (.aload_n 0, 1) := by decide +kernel
theorem dX5_readHeader_65 : decode cX5_readHeader 65 = .ok (.getfield 91, 3) := by decide +kernel
theorem dX5_readHeader_68 : decode cX5_readHeader 68 = .ok (.l2i, 1) := by decide +kernel
theorem dX5_readHeader_69 : decode cX5_readHeader 69 = .ok (.putfield 98, 3) := by decide +kernel
theorem dX5_readHeader_72 : decode cX5_readHeader 72 = .ok (.aload_n 0, 1) := by decide +kernel
theorem dX5_readHeader_73 : decode cX5_readHeader 73 = .ok (.invokevirtual 64, 3) := by decide +kernel
theorem dX5_readHeader_76 : decode cX5_readHeader 76 = .ok (.aload_n 0, 1) := by decide +kernel
theorem dX5_readHeader_77 : decode cX5_readHeader 77 = .ok (.invokevirtual 101, 3) := by decide +kernel
theorem dX5_readHeader_80 : decode cX5_readHeader 80 = .ok (.ireturn, 1) := by decide +kernel
theorem dX5_readStatement_0 : decode cX5_readStatement 0 = .ok (.aload_n 0, 1) := by decide +kernel
theorem dX5_readStatement_1 : decode cX5_readStatement 1 = .ok (.ldc 104, 2) := by decide +kernel
theorem dX5_readStatement_3 : decode cX5_readStatement 3 = .ok (.invokevirtual 83, 3) := by decide +kernel
theorem dX5_readStatement_6 : decode cX5_readStatement 6 = .ok (.ifCond .eq 23, 3) := by decide +kernel
theorem dX5_readStatement_9 : decode cX5_readStatement 9 = .ok (.aload_n 0, 1) := by decide +kernel
theorem dX5_readStatement_10 : decode cX5_readStatement 10 = .ok (.invokevirtual 106, 3) := by decide +kernel
theorem dX5_readStatement_13 : decode cX5_readStatement 13 = .ok (.ifCond .eq 14, 3) := by decide +kernel
theorem dX5_readStatement_16 : decode cX5_readStatement 16 = .ok (.aload_n 0, 1) := by decide +kernel
theorem dX5_readStatement_17 : decode cX5_readStatement 17 = .ok (.invokevirtual 101, 3) := by decide +kernel
theorem dX5_readStatement_20 : decode cX5_readStatement 20 = .ok (.ifCond .eq 7, 3) := by decide +kernel
theorem dX5_readStatement_23 : decode cX5_readStatement 23 = .ok (.iconst 1, 1) := by decide +kernel
theorem dX5_readStatement_24 : decode cX5_readStatement 24 = .ok (.goto 4, 3) := by decide +kernel
theorem dX5_readStatement_27 : decode cX5_readStatement 27 = .ok (.iconst 0, 1) := by decide +kernel
theorem dX5_readStatement_28 : decode cX5_readStatement 28 = .ok (.ireturn, 1) := by decide +kernel
theorem dX5_readStatement_29 : decode cX5_readStatement 29 = .ok (.aload_n 0, 1) := by decide +kernel
theorem dX5_readStatement_30 : decode cX5_readStatement 30 = .ok (.ldc 109, 2) := by decide +kernel
theorem dX5_readStatement_32 : decode cX5_readStatement 32 = .ok (.invokevirtual 83, 3) := by decide +kernel
theorem dX5_readStatement_35 : decode cX5_readStatement 35 = .ok (.ifCond .eq 23, 3) := by decide +kernel
theorem dX5_readStatement_38 : decode cX5_readStatement 38 = .ok (.aload_n 0, 1) := by decide +kernel
theorem dX5_readStatement_39 : decode cX5_readStatement 39 = .ok (.invokevirtual 111, 3) := by decide +kernel
theorem dX5_readStatement_42 : decode cX5_readStatement 42 = .ok (.ifCond .eq 14, 3) := by decide +kernel
theorem dX5_readStatement_45 : decode cX5_readStatement 45 = .ok (.aload_n 0, 1) := by decide +kernel
theorem dX5_readStatement_46 : decode cX5_readStatement 46 = .ok (.invokevirtual 101, 3) := by decide +kernel
theorem dX5_readStatement_49 : decode cX5_readStatement 49 = .ok (.ifCond .eq 7, 3) := by decide +kernel
theorem dX5_readStatement_52 : decode cX5_readStatement 52 = .ok (.iconst 1, 1) := by decide +kernel
theorem dX5_readStatement_53 : decode cX5_readStatement 53 = .ok (.goto 4, 3) := by decide +kernel
theorem dX5_readStatement_56 : decode cX5_readStatement 56 = .ok (.iconst 0, 1) := by decide +kernel
theorem dX5_readStatement_57 : decode cX5_readStatement 57 = .ok (.ireturn, 1) := by decide +kernel
theorem dX5_readStatement_58 : decode cX5_readStatement 58 = .ok (.aload_n 0, 1) := by decide +kernel
theorem dX5_readStatement_59 : decode cX5_readStatement 59 = .ok (.ldc 114, 2) := by decide +kernel
theorem dX5_readStatement_61 : decode cX5_readStatement 61 = .ok (.invokevirtual 83, 3) := by decide +kernel
theorem dX5_readStatement_64 : decode cX5_readStatement 64 = .ok (.ifCond .eq 23, 3) := by decide +kernel
theorem dX5_readStatement_67 : decode cX5_readStatement 67 = .ok (.aload_n 0, 1) := by decide +kernel
theorem dX5_readStatement_68 : decode cX5_readStatement 68 = .ok (.invokevirtual 116, 3) := by decide +kernel
theorem dX5_readStatement_71 : decode cX5_readStatement 71 = .ok (.ifCond .eq 14, 3) := by decide +kernel
theorem dX5_readStatement_74 : decode cX5_readStatement 74 = .ok (.aload_n 0, 1) := by decide +kernel
theorem dX5_readStatement_75 : decode cX5_readStatement 75 = .ok (.invokevirtual 101, 3) := by decide +kernel
theorem dX5_readStatement_78 : decode cX5_readStatement 78 = .ok (.ifCond .eq 7, 3) := by decide +kernel
theorem dX5_readStatement_81 : decode cX5_readStatement 81 = .ok (.iconst 1, 1) := by decide +kernel
theorem dX5_readStatement_82 : decode cX5_readStatement 82 = .ok (.goto 4, 3) := by decide +kernel
theorem dX5_readStatement_85 : decode cX5_readStatement 85 = .ok (.iconst 0, 1) := by decide +kernel
theorem dX5_readStatement_86 : decode cX5_readStatement 86 = .ok (.ireturn, 1) := by decide +kernel
theorem dX5_readStatement_87 : decode cX5_readStatement 87 = .ok (.aload_n 0, 1) := by decide +kernel
theorem dX5_readStatement_88 : decode cX5_readStatement 88 = .ok (.ldc 119, 2) := by decide +kernel
theorem dX5_readStatement_90 : decode cX5_readStatement 90 = .ok (.invokevirtual 83, 3) := by decide +kernel
theorem dX5_readStatement_93 : decode cX5_readStatement 93 = .ok (.ifCond .eq 23, 3) := by decide +kernel
theorem dX5_readStatement_96 : decode cX5_readStatement 96 = .ok (.aload_n 0, 1) := by decide +kernel
theorem dX5_readStatement_97 : decode cX5_readStatement 97 = .ok (.invokevirtual 121, 3) := by decide +kernel
theorem dX5_readStatement_100 : decode cX5_readStatement 100 = .ok (.ifCond .eq 14, 3) := by decide +kernel
theorem dX5_readStatement_103 : decode cX5_readStatement 103 = .ok (.aload_n 0, 1) := by decide +kernel
theorem dX5_readStatement_104 : decode cX5_readStatement 104 = .ok (.invokevirtual 101, 3) := by decide +kernel
theorem dX5_readStatement_107 : decode cX5_readStatement 107 = .ok (.ifCond .eq 7, 3) := by decide +kernel
theorem dX5_readStatement_110 : decode cX5_readStatement 110 = .ok (.iconst 1, 1) := by decide +kernel
theorem dX5_readStatement_111 : decode cX5_readStatement 111 = .ok (.goto 4, 3) := by decide +kernel
theorem dX5_readStatement_114 : decode cX5_readStatement 114 = .ok (.iconst 0, 1) := by decide +kernel
theorem dX5_readStatement_115 : decode cX5_readStatement 115 = .ok (.ireturn, 1) := by decide +kernel
theorem dX5_readStatement_116 : decode cX5_readStatement 116 = .ok (.aload_n 0, 1) := by decide +kernel
theorem dX5_readStatement_117 : decode cX5_readStatement 117 = .ok (.iconst 1, 1) := by decide +kernel
theorem dX5_readStatement_118 : decode cX5_readStatement 118 = .ok (.invokevirtual 77, 3) := by decide +kernel
theorem dX5_readStatement_121 : decode cX5_readStatement 121 = .ok (.ireturn, 1) := by decide +kernel
theorem dX5_readPattern_0 : decode cX5_readPattern 0 = .ok (.aload_n 0, 1) := by decide +kernel
theorem dX5_readPattern_1 : decode cX5_readPattern 1 = .ok (.getfield 18, 3) := by decide +kernel
theorem dX5_readPattern_4 : decode cX5_readPattern 4 = .ok (.getfield 124, 3) := by decide +kernel
theorem dX5_readPattern_7 : decode cX5_readPattern 7 = .ok (.istore_n 1, 1) := by decide +kernel
theorem dX5_readPattern_8 : decode cX5_readPattern 8 = .ok (.iload_n 1, 1) := by decide +kernel
theorem dX5_readPattern_9 : decode cX5_readPattern 9 = .ok (.bipush 6, 2) := by decide +kernel
theorem dX5_readPattern_11 : decode cX5_readPattern 11 = .ok (.if_icmp .lt 9, 3) := by decide +kernel
theorem dX5_readPattern_14 : decode cX5_readPattern 14 = .ok (.aload_n 0, 1) := by decide +kernel
theorem dX5_readPattern_15 : decode cX5_readPattern 15 = .ok (.iconst 5, 1) := by decide +kernel
theorem dX5_readPattern_16 : decode cX5_readPattern 16 = .ok (.invokevirtual 77, 3) := by decide +kernel
theorem dX5_readPattern_19 : decode cX5_readPattern 19 = .ok (.ireturn, 1) := by decide +kernel
theorem dX5_readPattern_20 : decode cX5_readPattern 20 = .ok (.aload_n 0, 1) := by decide +kernel
theorem dX5_readPattern_21 : decode cX5_readPattern 21 = .ok (.invokevirtual 64, 3) := by decide +kernel
theorem dX5_readPattern_24 : decode cX5_readPattern 24 = .ok (.aload_n 0, 1) := by decide +kernel
theorem dX5_readPattern_25 : decode cX5_readPattern 25 = .ok (.aload_n 0, 1) := by decide +kernel
theorem dX5_readPattern_26 : decode cX5_readPattern 26 = .ok (.getfield 22, 3) := by decide +kernel
theorem dX5_readPattern_29 : decode cX5_readPattern 29 = .ok (.iload_n 1, 1) := by decide +kernel
theorem dX5_readPattern_30 : decode cX5_readPattern 30 = .ok (.invokevirtual 127, 3) := by decide +kernel
theorem dX5_readPattern_33 : decode cX5_readPattern 33 = .ok (.ifCond .ne 5, 3) := by decide +kernel
theorem dX5_readPattern_36 : decode cX5_readPattern 36 = .ok (.iconst 0, 1) := by decide +kernel
theorem dX5_readPattern_37 : decode cX5_readPattern 37 = .ok (.ireturn, 1) := by decide +kernel
theorem dX5_readPattern_38 : decode cX5_readPattern 38 = .ok (.aload_n 0, 1) := by decide +kernel
theorem dX5_readPattern_39 : decode cX5_readPattern 39 = .ok (.iconst 1, 1) := by decide +kernel
theorem dX5_readPattern_40 : decode cX5_readPattern 40 = .ok (.bipush 99, 2) := by decide +kernel
theorem dX5_readPattern_42 : decode cX5_readPattern 42 = .ok (.invokevirtual 87, 3) := by decide +kernel
theorem dX5_readPattern_45 : decode cX5_readPattern 45 = .ok (.ifCond .ne 5, 3) := by decide +kernel
theorem dX5_readPattern_48 : decode cX5_readPattern 48 = .ok (.iconst 0, 1) := by decide +kernel
theorem dX5_readPattern_49 : decode cX5_readPattern 49 = .ok (.ireturn, 1) := by decide +kernel
theorem dX5_readPattern_50 : decode cX5_readPattern 50 = .ok (.aload_n 0, 1) := by decide +kernel
theorem dX5_readPattern_51 : decode cX5_readPattern 51 = .ok (.getfield 18, 3) := by decide +kernel
theorem dX5_readPattern_54 : decode cX5_readPattern 54 = .ok (.getfield 131, 3) := by decide +kernel
theorem dX5_readPattern_57 : decode cX5_readPattern 57 = .ok (.iload_n 1, 1) := by decide +kernel
theorem dX5_readPattern_58 : decode cX5_readPattern 58 = .ok (.aload_n 0, 1) := by decide +kernel
theorem dX5_readPattern_59 : decode cX5_readPattern 59 = .ok (.getfield 91, 3) := by decide +kernel
theorem dX5_readPattern_62 : decode cX5_readPattern 62 = .ok (.l2i, 1) := by decide +kernel
theorem dX5_readPattern_63 : decode cX5_readPattern 63 = .ok (.iastore, 1) := by decide +kernel
theorem dX5_readPattern_64 : decode cX5_readPattern 64 = .ok (.aload_n 0, 1) := by decide +kernel
theorem dX5_readPattern_65 : decode cX5_readPattern 65 = .ok (.invokevirtual 64, 3) := by decide +kernel
theorem dX5_readPattern_68 : decode cX5_readPattern 68 = .ok (.aload_n 0, 1) := by decide +kernel
theorem dX5_readPattern_69 : decode cX5_readPattern 69 = .ok (.iconst 1, 1) := by decide +kernel
theorem dX5_readPattern_70 : decode cX5_readPattern 70 = .ok (.sipush 200, 3) := by decide +kernel
theorem dX5_readPattern_73 : decode cX5_readPattern 73 = .ok (.invokevirtual 87, 3) := by decide +kernel
theorem dX5_readPattern_76 : decode cX5_readPattern 76 = .ok (.ifCond .ne 5, 3) := by decide +kernel
theorem dX5_readPattern_79 : decode cX5_readPattern 79 = .ok (.iconst 0, 1) := by decide +kernel
theorem dX5_readPattern_80 : decode cX5_readPattern 80 = .ok (.ireturn, 1) := by decide +kernel
theorem dX5_readPattern_81 : decode cX5_readPattern 81 = .ok (.aload_n 0, 1) := by decide +kernel
theorem dX5_readPattern_82 : decode cX5_readPattern 82 = .ok (.getfield 18, 3) := by decide +kernel
theorem dX5_readPattern_85 : decode cX5_readPattern 85 = .ok (.getfield 135, 3) := by decide +kernel
theorem dX5_readPattern_88 : decode cX5_readPattern 88 = .ok (.iload_n 1, 1) := by decide +kernel
theorem dX5_readPattern_89 : decode cX5_readPattern 89 = .ok (.aload_n 0, 1) := by decide +kernel
theorem dX5_readPattern_90 : decode cX5_readPattern 90 = .ok (.getfield 91, 3) := by decide +kernel
theorem dX5_readPattern_93 : decode cX5_readPattern 93 = .ok (.l2i, 1) := by decide +kernel
theorem dX5_readPattern_94 : decode cX5_readPattern 94 = .ok (.iastore, 1) := by decide +kernel
theorem dX5_readPattern_95 : decode cX5_readPattern 95 = .ok (.aload_n 0, 1) := by decide +kernel
theorem dX5_readPattern_96 : decode cX5_readPattern 96 = .ok (.invokevirtual 64, 3) := by decide +kernel
theorem dX5_readPattern_99 : decode cX5_readPattern 99 = .ok (.aload_n 0, 1) := by decide +kernel
theorem dX5_readPattern_100 : decode cX5_readPattern 100 = .ok (.getfield 18, 3) := by decide +kernel
theorem dX5_readPattern_103 : decode cX5_readPattern 103 = .ok (.iload_n 1, 1) := by decide +kernel
theorem dX5_readPattern_104 : decode cX5_readPattern 104 = .ok (.iconst 1, 1) := by decide +kernel
theorem dX5_readPattern_105 : decode cX5_readPattern 105 = .ok (.iadd, 1) := by decide +kernel
theorem dX5_readPattern_106 : decode cX5_readPattern 106 = .ok (.putfield 124, 3) := by decide +kernel
theorem dX5_readPattern_109 : decode cX5_readPattern 109 = .ok (.aload_n 0, 1) := by decide +kernel
theorem dX5_readPattern_110 : decode cX5_readPattern 110 = .ok (.iload_n 1, 1) := by decide +kernel
theorem dX5_readPattern_111 : decode cX5_readPattern 111 = .ok (.invokevirtual 138, 3) := by decide +kernel
theorem dX5_readPattern_114 : decode cX5_readPattern 114 = .ok (.ireturn, 1) := by decide +kernel
theorem dX5_readPatternErrors_0 : decode cX5_readPatternErrors 0 = .ok (.iconst 0, 1) := by decide +kernel
theorem dX5_readPatternErrors_1 : decode cX5_readPatternErrors 1 = .ok (.istore_n 2, 1) := by decide +kernel
theorem dX5_readPatternErrors_2 : decode cX5_readPatternErrors 2 = .ok (.iload_n 2, 1) := by decide +kernel
theorem dX5_readPatternErrors_3 : decode cX5_readPatternErrors 3 = .ok (.iconst 5, 1) := by decide +kernel
theorem dX5_readPatternErrors_4 : decode cX5_readPatternErrors 4 = .ok (.if_icmp .ge 38, 3) := by decide +kernel
theorem dX5_readPatternErrors_7 : decode cX5_readPatternErrors 7 = .ok (.aload_n 0, 1) := by decide +kernel
theorem dX5_readPatternErrors_8 : decode cX5_readPatternErrors 8 = .ok (.invokevirtual 141, 3) := by decide +kernel
theorem dX5_readPatternErrors_11 : decode cX5_readPatternErrors 11 = .ok (.iconst (-1), 1) := by decide +kernel
theorem dX5_readPatternErrors_12 : decode cX5_readPatternErrors 12 = .ok (.if_icmp .eq 30, 3) := by decide +kernel
theorem dX5_readPatternErrors_15 : decode cX5_readPatternErrors 15 = .ok (.aload_n 0, 1) := by decide +kernel
theorem dX5_readPatternErrors_16 : decode cX5_readPatternErrors 16 = .ok (.getfield 18, 3) := by decide +kernel
theorem dX5_readPatternErrors_19 : decode cX5_readPatternErrors 19 = .ok (.getfield 145, 3) := by decide +kernel
theorem dX5_readPatternErrors_22 : decode cX5_readPatternErrors 22 = .ok (.iload_n 1, 1) := by decide +kernel
theorem dX5_readPatternErrors_23 : decode cX5_readPatternErrors 23 = .ok (.iconst 5, 1) := by decide +kernel
theorem dX5_readPatternErrors_24 : decode cX5_readPatternErrors 24 = .ok (.imul, 1) := by decide +kernel
theorem dX5_readPatternErrors_25 : decode cX5_readPatternErrors 25 = .ok (.iload_n 2, 1) := by decide +kernel
theorem dX5_readPatternErrors_26 : decode cX5_readPatternErrors 26 = .ok (.iadd, 1) := by decide +kernel
theorem dX5_readPatternErrors_27 : decode cX5_readPatternErrors 27 = .ok (.aload_n 0, 1) := by decide +kernel
theorem dX5_readPatternErrors_28 : decode cX5_readPatternErrors 28 = .ok (.invokevirtual 141, 3) := by decide +kernel
theorem dX5_readPatternErrors_31 : decode cX5_readPatternErrors 31 = .ok (.iastore, 1) := by decide +kernel
theorem dX5_readPatternErrors_32 : decode cX5_readPatternErrors 32 = .ok (.iinc 2 1, 3) := by decide +kernel
theorem dX5_readPatternErrors_35 : decode cX5_readPatternErrors 35 = .ok (.aload_n 0, 1) := by decide +kernel
theorem dX5_readPatternErrors_36 : decode cX5_readPatternErrors 36 = .ok (.invokevirtual 64, 3) := by decide +kernel
theorem dX5_readPatternErrors_39 : decode cX5_readPatternErrors 39 = .ok (.goto (-37), 3) := by decide +kernel
theorem dX5_readPatternErrors_42 : decode cX5_readPatternErrors 42 = .ok (.aload_n 0, 1) := by decide +kernel
theorem dX5_readPatternErrors_43 : decode cX5_readPatternErrors 43 = .ok (.getfield 18, 3) := by decide +kernel
theorem dX5_readPatternErrors_46 : decode cX5_readPatternErrors 46 = .ok (.getfield 148, 3) := by decide +kernel
theorem dX5_readPatternErrors_49 : decode cX5_readPatternErrors 49 = .ok (.iload_n 1, 1) := by decide +kernel
theorem dX5_readPatternErrors_50 : decode cX5_readPatternErrors 50 = .ok (.iload_n 2, 1) := by decide +kernel
theorem dX5_readPatternErrors_51 : decode cX5_readPatternErrors 51 = .ok (.iastore, 1) := by decide +kernel
theorem dX5_readPatternErrors_52 : decode cX5_readPatternErrors 52 = .ok (.iload_n 2, 1) := by decide +kernel
theorem dX5_readPatternErrors_53 : decode cX5_readPatternErrors 53 = .ok (.ifCond .ne 9, 3) := by decide +kernel
theorem dX5_readPatternErrors_56 : decode cX5_readPatternErrors 56 = .ok (.aload_n 0, 1) := by decide +kernel
theorem dX5_readPatternErrors_57 : decode cX5_readPatternErrors 57 = .ok (.iconst 1, 1) := by decide +kernel
theorem dX5_readPatternErrors_58 : decode cX5_readPatternErrors 58 = .ok (.invokevirtual 77, 3) := by decide +kernel
theorem dX5_readPatternErrors_61 : decode cX5_readPatternErrors 61 = .ok (.ireturn, 1) := by decide +kernel
theorem dX5_readPatternErrors_62 : decode cX5_readPatternErrors 62 = .ok (.aload_n 0, 1) := by decide +kernel
theorem dX5_readPatternErrors_63 : decode cX5_readPatternErrors 63 = .ok (.invokevirtual 141, 3) := by decide +kernel
theorem dX5_readPatternErrors_66 : decode cX5_readPatternErrors 66 = .ok (.iconst (-1), 1) := by decide +kernel
theorem dX5_readPatternErrors_67 : decode cX5_readPatternErrors 67 = .ok (.if_icmp .eq 11, 3) := by decide +kernel
theorem dX5_readPatternErrors_70 : decode cX5_readPatternErrors 70 = .ok (.aload_n 0, 1) := by decide +kernel
theorem dX5_readPatternErrors_71 : decode cX5_readPatternErrors 71 = .ok (.iconst 5, 1) := by decide +kernel
theorem dX5_readPatternErrors_72 : decode cX5_readPatternErrors 72 = .ok (.invokevirtual 77, 3) := by decide +kernel
theorem dX5_readPatternErrors_75 : decode cX5_readPatternErrors 75 = .ok (.ifCond .eq 7, 3) := by decide +kernel
theorem dX5_readPatternErrors_78 : decode cX5_readPatternErrors 78 = .ok (.iconst 1, 1) := by decide +kernel
theorem dX5_readPatternErrors_79 : decode cX5_readPatternErrors 79 = .ok (.goto 4, 3) := by decide +kernel
theorem dX5_readPatternErrors_82 : decode cX5_readPatternErrors 82 = .ok (.iconst 0, 1) := by decide +kernel
theorem dX5_readPatternErrors_83 : decode cX5_readPatternErrors 83 = .ok (.ireturn, 1) := by decide +kernel
theorem dX5_readDevice_0 : decode cX5_readDevice 0 = .ok (.aload_n 0, 1) := by decide +kernel
theorem dX5_readDevice_1 : decode cX5_readDevice 1 = .ok (.getfield 18, 3) := by decide +kernel
theorem dX5_readDevice_4 : decode cX5_readDevice 4 = .ok (.getfield 151, 3) := by decide +kernel
theorem dX5_readDevice_7 : decode cX5_readDevice 7 = .ok (.istore_n 1, 1) := by decide +kernel
theorem dX5_readDevice_8 : decode cX5_readDevice 8 = .ok (.iload_n 1, 1) := by decide +kernel
theorem dX5_readDevice_9 : decode cX5_readDevice 9 = .ok (.bipush 8, 2) := by decide +kernel
theorem dX5_readDevice_11 : decode cX5_readDevice 11 = .ok (.if_icmp .lt 9, 3) := by decide +kernel
theorem dX5_readDevice_14 : decode cX5_readDevice 14 = .ok (.aload_n 0, 1) := by decide +kernel
theorem dX5_readDevice_15 : decode cX5_readDevice 15 = .ok (.iconst 5, 1) := by decide +kernel
theorem dX5_readDevice_16 : decode cX5_readDevice 16 = .ok (.invokevirtual 77, 3) := by decide +kernel
theorem dX5_readDevice_19 : decode cX5_readDevice 19 = .ok (.ireturn, 1) := by decide +kernel
theorem dX5_readDevice_20 : decode cX5_readDevice 20 = .ok (.aload_n 0, 1) := by decide +kernel
theorem dX5_readDevice_21 : decode cX5_readDevice 21 = .ok (.invokevirtual 64, 3) := by decide +kernel
theorem dX5_readDevice_24 : decode cX5_readDevice 24 = .ok (.aload_n 0, 1) := by decide +kernel
theorem dX5_readDevice_25 : decode cX5_readDevice 25 = .ok (.aload_n 0, 1) := by decide +kernel
theorem dX5_readDevice_26 : decode cX5_readDevice 26 = .ok (.getfield 26, 3) := by decide +kernel
theorem dX5_readDevice_29 : decode cX5_readDevice 29 = .ok (.iload_n 1, 1) := by decide +kernel
theorem dX5_readDevice_30 : decode cX5_readDevice 30 = .ok (.invokevirtual 127, 3) := by decide +kernel
theorem dX5_readDevice_33 : decode cX5_readDevice 33 = .ok (.ifCond .ne 5, 3) := by decide +kernel
theorem dX5_readDevice_36 : decode cX5_readDevice 36 = .ok (.iconst 0, 1) := by decide +kernel
theorem dX5_readDevice_37 : decode cX5_readDevice 37 = .ok (.ireturn, 1) := by decide +kernel
theorem dX5_readDevice_38 : decode cX5_readDevice 38 = .ok (.aload_n 0, 1) := by decide +kernel
theorem dX5_readDevice_39 : decode cX5_readDevice 39 = .ok (.iconst 0, 1) := by decide +kernel
theorem dX5_readDevice_40 : decode cX5_readDevice 40 = .ok (.aload_n 0, 1) := by decide +kernel
theorem dX5_readDevice_41 : decode cX5_readDevice 41 = .ok (.getfield 18, 3) := by decide +kernel
theorem dX5_readDevice_44 : decode cX5_readDevice 44 = .ok (.getfield 98, 3) := by decide +kernel
theorem dX5_readDevice_47 : decode cX5_readDevice 47 = .ok (.iconst 1, 1) := by decide +kernel
theorem dX5_readDevice_48 : decode cX5_readDevice 48 = .ok (.isub, 1) := by decide +kernel
theorem dX5_readDevice_49 : decode cX5_readDevice 49 = .ok (.invokevirtual 87, 3) := by decide +kernel
theorem dX5_readDevice_52 : decode cX5_readDevice 52 = .ok (.ifCond .ne 5, 3) := by decide +kernel
theorem dX5_readDevice_55 : decode cX5_readDevice 55 = .ok (.iconst 0, 1) := by decide +kernel
theorem dX5_readDevice_56 : decode cX5_readDevice 56 = .ok (.ireturn, 1) := by decide +kernel
theorem dX5_readDevice_57 : decode cX5_readDevice 57 = .ok (.aload_n 0, 1) := by decide +kernel
theorem dX5_readDevice_58 : decode cX5_readDevice 58 = .ok (.aload_n 0, 1) := by decide +kernel
theorem dX5_readDevice_59 : decode cX5_readDevice 59 = .ok (.getfield 91, 3) := by decide +kernel
theorem dX5_readDevice_62 : decode cX5_readDevice 62 = .ok (.l2i, 1) := by decide +kernel
theorem dX5_readDevice_63 : decode cX5_readDevice 63 = .ok (.invokevirtual 154, 3) := by decide +kernel
theorem dX5_readDevice_66 : decode cX5_readDevice 66 = .ok (.ifCond .eq 9, 3) := by decide +kernel
theorem dX5_readDevice_69 : decode cX5_readDevice 69 = .ok (.aload_n 0, 1) := by decide +kernel
theorem dX5_readDevice_70 : decode cX5_readDevice 70 = .ok (.iconst 3, 1) := by decide +kernel
theorem dX5_readDevice_71 : decode cX5_readDevice 71 = .ok (.invokevirtual 77, 3) := by decide +kernel
theorem dX5_readDevice_74 : decode cX5_readDevice 74 = .ok (.ireturn, 1) := by decide +kernel
theorem dX5_readDevice_75 : decode cX5_readDevice 75 = .ok (.aload_n 0, 1) := by decide +kernel
theorem dX5_readDevice_76 : decode cX5_readDevice 76 = .ok (.getfield 18, 3) := by decide +kernel
theorem dX5_readDevice_79 : decode cX5_readDevice 79 = .ok (.getfield 157, 3) := by decide +kernel
theorem dX5_readDevice_82 : decode cX5_readDevice 82 = .ok (.iload_n 1, 1) := by decide +kernel
theorem dX5_readDevice_83 : decode cX5_readDevice 83 = .ok (.aload_n 0, 1) := by decide +kernel
theorem dX5_readDevice_84 : decode cX5_readDevice 84 = .ok (.getfield 91, 3) := by decide +kernel
theorem dX5_readDevice_87 : decode cX5_readDevice 87 = .ok (.l2i, 1) := by decide +kernel
theorem dX5_readDevice_88 : decode cX5_readDevice 88 = .ok (.iastore, 1) := by decide +kernel
theorem dX5_readDevice_89 : decode cX5_readDevice 89 = .ok (.aload_n 0, 1) := by decide +kernel
theorem dX5_readDevice_90 : decode cX5_readDevice 90 = .ok (.invokevirtual 64, 3) := by decide +kernel
theorem dX5_readDevice_93 : decode cX5_readDevice 93 = .ok (.aload_n 0, 1) := by decide +kernel
theorem dX5_readDevice_94 : decode cX5_readDevice 94 = .ok (.getfield 18, 3) := by decide +kernel
theorem dX5_readDevice_97 : decode cX5_readDevice 97 = .ok (.getfield 160, 3) := by decide +kernel
theorem dX5_readDevice_100 : decode cX5_readDevice 100 = .ok (.iload_n 1, 1) := by decide +kernel
theorem dX5_readDevice_101 : decode cX5_readDevice 101 = .ok (.iconst (-1), 1) := by decide +kernel
theorem dX5_readDevice_102 : decode cX5_readDevice 102 = .ok (.iastore, 1) := by decide +kernel
theorem dX5_readDevice_103 : decode cX5_readDevice 103 = .ok (.aload_n 0, 1) := by decide +kernel
theorem dX5_readDevice_104 : decode cX5_readDevice 104 = .ok (.ldc 163, 2) := by decide +kernel
theorem dX5_readDevice_106 : decode cX5_readDevice 106 = .ok (.invokevirtual 83, 3) := by decide +kernel
theorem dX5_readDevice_109 : decode cX5_readDevice 109 = .ok (.ifCond .eq 38, 3) := by decide +kernel
theorem dX5_readDevice_112 : decode cX5_readDevice 112 = .ok (.aload_n 0, 1) := by decide +kernel
theorem dX5_readDevice_113 : decode cX5_readDevice 113 = .ok (.invokevirtual 64, 3) := by decide +kernel
theorem dX5_readDevice_116 : decode cX5_readDevice 116 = .ok (.aload_n 0, 1) := by decide +kernel
theorem dX5_readDevice_117 : decode cX5_readDevice 117 = .ok (.invokevirtual 164, 3) := by decide +kernel
theorem dX5_readDevice_120 : decode cX5_readDevice 120 = .ok (.ifCond .ne 5, 3) := by decide +kernel
theorem dX5_readDevice_123 : decode cX5_readDevice 123 = .ok (.iconst 0, 1) := by decide +kernel
theorem dX5_readDevice_124 : decode cX5_readDevice 124 = .ok (.ireturn, 1) := by decide +kernel
theorem dX5_readDevice_125 : decode cX5_readDevice 125 = .ok (.aload_n 0, 1) := by decide +kernel
theorem dX5_readDevice_126 : decode cX5_readDevice 126 = .ok (.getfield 18, 3) := by decide +kernel
theorem dX5_readDevice_129 : decode cX5_readDevice 129 = .ok (.getfield 160, 3) := by decide +kernel
theorem dX5_readDevice_132 : decode cX5_readDevice 132 = .ok (.iload_n 1, 1) := by decide +kernel
theorem dX5_readDevice_133 : decode cX5_readDevice 133 = .ok (.aload_n 0, 1) := by decide +kernel
theorem dX5_readDevice_134 : decode cX5_readDevice 134 = .ok (.aload_n 0, 1) := by decide +kernel
theorem dX5_readDevice_135 : decode cX5_readDevice 135 = .ok (.getfield 26, 3) := by decide +kernel
theorem dX5_readDevice_138 : decode cX5_readDevice 138 = .ok (.iload_n 1, 1) := by decide +kernel
theorem dX5_readDevice_139 : decode cX5_readDevice 139 = .ok (.invokevirtual 167, 3) := by decide +kernel
theorem dX5_readDevice_142 : decode cX5_readDevice 142 = .ok (.iastore, 1) := by decide +kernel
theorem dX5_readDevice_143 : decode cX5_readDevice 143 = .ok (.aload_n 0, 1) := by decide +kernel
theorem dX5_readDevice_144 : decode cX5_readDevice 144 = .ok (.invokevirtual 64, 3) := by decide +kernel
theorem dX5_readDevice_147 : decode cX5_readDevice 147 = .ok (.aload_n 0, 1) := by decide +kernel
theorem dX5_readDevice_148 : decode cX5_readDevice 148 = .ok (.getfield 18, 3) := by decide +kernel
theorem dX5_readDevice_151 : decode cX5_readDevice 151 = .ok (.iload_n 1, 1) := by decide +kernel
theorem dX5_readDevice_152 : decode cX5_readDevice 152 = .ok (.iconst 1, 1) := by decide +kernel
theorem dX5_readDevice_153 : decode cX5_readDevice 153 = .ok (.iadd, 1) := by decide +kernel
theorem dX5_readDevice_154 : decode cX5_readDevice 154 = .ok (.putfield 151, 3) := by decide +kernel
theorem dX5_readDevice_157 : decode cX5_readDevice 157 = .ok (.iconst 1, 1) := by decide +kernel
theorem dX5_readDevice_158 : decode cX5_readDevice 158 = .ok (.ireturn, 1) := by decide +kernel
theorem dX5_readStream_0 : decode cX5_readStream 0 = .ok (.aload_n 0, 1) := by decide +kernel
theorem dX5_readStream_1 : decode cX5_readStream 1 = .ok (.getfield 18, 3) := by decide +kernel
theorem dX5_readStream_4 : decode cX5_readStream 4 = .ok (.getfield 171, 3) := by decide +kernel
theorem dX5_readStream_7 : decode cX5_readStream 7 = .ok (.istore_n 1, 1) := by decide +kernel
theorem dX5_readStream_8 : decode cX5_readStream 8 = .ok (.iload_n 1, 1) := by decide +kernel
theorem dX5_readStream_9 : decode cX5_readStream 9 = .ok (.bipush 12, 2) := by decide +kernel
theorem dX5_readStream_11 : decode cX5_readStream 11 = .ok (.if_icmp .lt 9, 3) := by decide +kernel
theorem dX5_readStream_14 : decode cX5_readStream 14 = .ok (.aload_n 0, 1) := by decide +kernel
theorem dX5_readStream_15 : decode cX5_readStream 15 = .ok (.iconst 5, 1) := by decide +kernel
theorem dX5_readStream_16 : decode cX5_readStream 16 = .ok (.invokevirtual 77, 3) := by decide +kernel
theorem dX5_readStream_19 : decode cX5_readStream 19 = .ok (.ireturn, 1) := by decide +kernel
theorem dX5_readStream_20 : decode cX5_readStream 20 = .ok (.aload_n 0, 1) := by decide +kernel
theorem dX5_readStream_21 : decode cX5_readStream 21 = .ok (.invokevirtual 64, 3) := by decide +kernel
theorem dX5_readStream_24 : decode cX5_readStream 24 = .ok (.aload_n 0, 1) := by decide +kernel
theorem dX5_readStream_25 : decode cX5_readStream 25 = .ok (.aload_n 0, 1) := by decide +kernel
theorem dX5_readStream_26 : decode cX5_readStream 26 = .ok (.getfield 29, 3) := by decide +kernel
theorem dX5_readStream_29 : decode cX5_readStream 29 = .ok (.iload_n 1, 1) := by decide +kernel
theorem dX5_readStream_30 : decode cX5_readStream 30 = .ok (.invokevirtual 127, 3) := by decide +kernel
theorem dX5_readStream_33 : decode cX5_readStream 33 = .ok (.ifCond .ne 5, 3) := by decide +kernel
theorem dX5_readStream_36 : decode cX5_readStream 36 = .ok (.iconst 0, 1) := by decide +kernel
theorem dX5_readStream_37 : decode cX5_readStream 37 = .ok (.ireturn, 1) := by decide +kernel
theorem dX5_readStream_38 : decode cX5_readStream 38 = .ok (.aload_n 0, 1) := by decide +kernel
theorem dX5_readStream_39 : decode cX5_readStream 39 = .ok (.invokevirtual 164, 3) := by decide +kernel
theorem dX5_readStream_42 : decode cX5_readStream 42 = .ok (.ifCond .ne 5, 3) := by decide +kernel
theorem dX5_readStream_45 : decode cX5_readStream 45 = .ok (.iconst 0, 1) := by decide +kernel
theorem dX5_readStream_46 : decode cX5_readStream 46 = .ok (.ireturn, 1) := by decide +kernel
theorem dX5_readStream_47 : decode cX5_readStream 47 = .ok (.aload_n 0, 1) := by decide +kernel
theorem dX5_readStream_48 : decode cX5_readStream 48 = .ok (.getfield 18, 3) := by decide +kernel
theorem dX5_readStream_51 : decode cX5_readStream 51 = .ok (.getfield 174, 3) := by decide +kernel
theorem dX5_readStream_54 : decode cX5_readStream 54 = .ok (.iload_n 1, 1) := by decide +kernel
theorem dX5_readStream_55 : decode cX5_readStream 55 = .ok (.aload_n 0, 1) := by decide +kernel
theorem dX5_readStream_56 : decode cX5_readStream 56 = .ok (.aload_n 0, 1) := by decide +kernel
theorem dX5_readStream_57 : decode cX5_readStream 57 = .ok (.getfield 26, 3) := by decide +kernel
theorem dX5_readStream_60 : decode cX5_readStream 60 = .ok (.aload_n 0, 1) := by decide +kernel
theorem dX5_readStream_61 : decode cX5_readStream 61 = .ok (.getfield 18, 3) := by decide +kernel
theorem dX5_readStream_64 : decode cX5_readStream 64 = .ok (.getfield 151, 3) := by decide +kernel
theorem dX5_readStream_67 : decode cX5_readStream 67 = .ok (.invokevirtual 167, 3) := by decide +kernel
theorem dX5_readStream_70 : decode cX5_readStream 70 = .ok (.iastore, 1) := by decide +kernel
theorem dX5_readStream_71 : decode cX5_readStream 71 = .ok (.aload_n 0, 1) := by decide +kernel
theorem dX5_readStream_72 : decode cX5_readStream 72 = .ok (.invokevirtual 64, 3) := by decide +kernel
theorem dX5_readStream_75 : decode cX5_readStream 75 = .ok (.aload_n 0, 1) := by decide +kernel
theorem dX5_readStream_76 : decode cX5_readStream 76 = .ok (.iconst 1, 1) := by decide +kernel
theorem dX5_readStream_77 : decode cX5_readStream 77 = .ok (.aload_n 0, 1) := by decide +kernel
theorem dX5_readStream_78 : decode cX5_readStream 78 = .ok (.getfield 18, 3) := by decide +kernel
theorem dX5_readStream_81 : decode cX5_readStream 81 = .ok (.getfield 95, 3) := by decide +kernel
theorem dX5_readStream_84 : decode cX5_readStream 84 = .ok (.invokevirtual 87, 3) := by decide +kernel
theorem dX5_readStream_87 : decode cX5_readStream 87 = .ok (.ifCond .ne 5, 3) := by decide +kernel
theorem dX5_readStream_90 : decode cX5_readStream 90 = .ok (.iconst 0, 1) := by decide +kernel
theorem dX5_readStream_91 : decode cX5_readStream 91 = .ok (.ireturn, 1) := by decide +kernel
theorem dX5_readStream_92 : decode cX5_readStream 92 = .ok (.aload_n 0, 1) := by decide +kernel
theorem dX5_readStream_93 : decode cX5_readStream 93 = .ok (.getfield 18, 3) := by decide +kernel
theorem dX5_readStream_96 : decode cX5_readStream 96 = .ok (.getfield 177, 3) := by decide +kernel
theorem dX5_readStream_99 : decode cX5_readStream 99 = .ok (.iload_n 1, 1) := by decide +kernel
theorem dX5_readStream_100 : decode cX5_readStream 100 = .ok (.aload_n 0, 1) := by decide +kernel
theorem dX5_readStream_101 : decode cX5_readStream 101 = .ok (.getfield 91, 3) := by decide +kernel
theorem dX5_readStream_104 : decode cX5_readStream 104 = .ok (.l2i, 1) := by decide +kernel
theorem dX5_readStream_105 : decode cX5_readStream 105 = .ok (.iastore, 1) := by decide +kernel
theorem dX5_readStream_106 : decode cX5_readStream 106 = .ok (.aload_n 0, 1) := by decide +kernel
theorem dX5_readStream_107 : decode cX5_readStream 107 = .ok (.invokevirtual 64, 3) := by decide +kernel
theorem dX5_readStream_110 : decode cX5_readStream 110 = .ok (.aload_n 0, 1) := by decide +kernel
theorem dX5_readStream_111 : decode cX5_readStream 111 = .ok (.iconst 1, 1) := by decide +kernel
theorem dX5_readStream_112 : decode cX5_readStream 112 = .ok (.sipush 9999, 3) := by decide +kernel
theorem dX5_readStream_115 : decode cX5_readStream 115 = .ok (.invokevirtual 87, 3) := by decide +kernel
theorem dX5_readStream_118 : decode cX5_readStream 118 = .ok (.ifCond .ne 5, 3) := by decide +kernel
theorem dX5_readStream_121 : decode cX5_readStream 121 = .ok (.iconst 0, 1) := by decide +kernel
theorem dX5_readStream_122 : decode cX5_readStream 122 = .ok (.ireturn, 1) := by decide +kernel
theorem dX5_readStream_123 : decode cX5_readStream 123 = .ok (.aload_n 0, 1) := by decide +kernel
theorem dX5_readStream_124 : decode cX5_readStream 124 = .ok (.getfield 18, 3) := by decide +kernel
theorem dX5_readStream_127 : decode cX5_readStream 127 = .ok (.getfield 180, 3) := by decide +kernel
theorem dX5_readStream_130 : decode cX5_readStream 130 = .ok (.iload_n 1, 1) := by decide +kernel
theorem dX5_readStream_131 : decode cX5_readStream 131 = .ok (.aload_n 0, 1) := by decide +kernel
theorem dX5_readStream_132 : decode cX5_readStream 132 = .ok (.getfield 91, 3) := by decide +kernel
theorem dX5_readStream_135 : decode cX5_readStream 135 = .ok (.l2i, 1) := by decide +kernel
theorem dX5_readStream_136 : decode cX5_readStream 136 = .ok (.iastore, 1) := by decide +kernel
theorem dX5_readStream_137 : decode cX5_readStream 137 = .ok (.aload_n 0, 1) := by decide +kernel
theorem dX5_readStream_138 : decode cX5_readStream 138 = .ok (.invokevirtual 64, 3) := by decide +kernel
theorem dX5_readStream_141 : decode cX5_readStream 141 = .ok (.aload_n 0, 1) := by decide +kernel
theorem dX5_readStream_142 : decode cX5_readStream 142 = .ok (.getfield 18, 3) := by decide +kernel
theorem dX5_readStream_145 : decode cX5_readStream 145 = .ok (.iload_n 1, 1) := by decide +kernel
theorem dX5_readStream_146 : decode cX5_readStream 146 = .ok (.iconst 1, 1) := by decide +kernel
theorem dX5_readStream_147 : decode cX5_readStream 147 = .ok (.iadd, 1) := by decide +kernel
theorem dX5_readStream_148 : decode cX5_readStream 148 = .ok (.putfield 171, 3) := by decide +kernel
theorem dX5_readStream_151 : decode cX5_readStream 151 = .ok (.iconst 1, 1) := by decide +kernel
theorem dX5_readStream_152 : decode cX5_readStream 152 = .ok (.ireturn, 1) := by decide +kernel
theorem dX5_readAlarm_0 : decode cX5_readAlarm 0 = .ok (.aload_n 0, 1) := by decide +kernel
theorem dX5_readAlarm_1 : decode cX5_readAlarm 1 = .ok (.getfield 57, 3) := by decide +kernel
theorem dX5_readAlarm_4 : decode cX5_readAlarm 4 = .ok (.ifCond .eq 9, 3) := by decide +kernel
theorem dX5_readAlarm_7 : decode cX5_readAlarm 7 = .ok (.aload_n 0, 1) := by decide +kernel
theorem dX5_readAlarm_8 : decode cX5_readAlarm 8 = .ok (.iconst 3, 1) := by decide +kernel
theorem dX5_readAlarm_9 : decode cX5_readAlarm 9 = .ok (.invokevirtual 77, 3) := by decide +kernel
theorem dX5_readAlarm_12 : decode cX5_readAlarm 12 = .ok (.ireturn, 1) := by decide +kernel
theorem dX5_readAlarm_13 : decode cX5_readAlarm 13 = .ok (.aload_n 0, 1) := by decide +kernel
theorem dX5_readAlarm_14 : decode cX5_readAlarm 14 = .ok (.iconst 1, 1) := by decide +kernel
theorem dX5_readAlarm_15 : decode cX5_readAlarm 15 = .ok (.putfield 57, 3) := by decide +kernel
theorem dX5_readAlarm_18 : decode cX5_readAlarm 18 = .ok (.aload_n 0, 1) := by decide +kernel
theorem dX5_readAlarm_19 : decode cX5_readAlarm 19 = .ok (.invokevirtual 64, 3) := by decide +kernel
theorem dX5_readAlarm_22 : decode cX5_readAlarm 22 = .ok (.aload_n 0, 1) := by decide +kernel
theorem dX5_readAlarm_23 : decode cX5_readAlarm 23 = .ok (.iconst 1, 1) := by decide +kernel
theorem dX5_readAlarm_24 : decode cX5_readAlarm 24 = .ok (.sipush 999, 3) := by decide +kernel
theorem dX5_readAlarm_27 : decode cX5_readAlarm 27 = .ok (.invokevirtual 87, 3) := by decide +kernel
theorem dX5_readAlarm_30 : decode cX5_readAlarm 30 = .ok (.ifCond .ne 5, 3) := by decide +kernel
theorem dX5_readAlarm_33 : decode cX5_readAlarm 33 = .ok (.iconst 0, 1) := by decide +kernel
theorem dX5_readAlarm_34 : decode cX5_readAlarm 34 = .ok (.ireturn, 1) := by decide +kernel
theorem dX5_readAlarm_35 : decode cX5_readAlarm 35 = .ok (.aload_n 0, 1) := by decide +kernel
theorem dX5_readAlarm_36 : decode cX5_readAlarm 36 = .ok (.getfield 18, 3) := by decide +kernel
theorem dX5_readAlarm_39 : decode cX5_readAlarm 39 = .ok (.aload_n 0, 1) := by decide +kernel
theorem dX5_readAlarm_40 : decode cX5_readAlarm 40 = .ok (.getfield 91, 3) := by decide +kernel
theorem dX5_readAlarm_43 : decode cX5_readAlarm 43 = .ok (.l2i, 1) := by decide +kernel
theorem dX5_readAlarm_44 : decode cX5_readAlarm 44 = .ok (.putfield 183, 3) := by decide +kernel
theorem dX5_readAlarm_47 : decode cX5_readAlarm 47 = .ok (.aload_n 0, 1) := by decide +kernel
theorem dX5_readAlarm_48 : decode cX5_readAlarm 48 = .ok (.invokevirtual 64, 3) := by decide +kernel
theorem dX5_readAlarm_51 : decode cX5_readAlarm 51 = .ok (.aload_n 0, 1) := by decide +kernel
theorem dX5_readAlarm_52 : decode cX5_readAlarm 52 = .ok (.iconst 1, 1) := by decide +kernel
theorem dX5_readAlarm_53 : decode cX5_readAlarm 53 = .ok (.bipush 99, 2) := by decide +kernel
theorem dX5_readAlarm_55 : decode cX5_readAlarm 55 = .ok (.invokevirtual 87, 3) := by decide +kernel
theorem dX5_readAlarm_58 : decode cX5_readAlarm 58 = .ok (.ifCond .ne 5, 3) := by decide +kernel
theorem dX5_readAlarm_61 : decode cX5_readAlarm 61 = .ok (.iconst 0, 1) := by decide +kernel
theorem dX5_readAlarm_62 : decode cX5_readAlarm 62 = .ok (.ireturn, 1) := by decide +kernel
theorem dX5_readAlarm_63 : decode cX5_readAlarm 63 = .ok (.aload_n 0, 1) := by decide +kernel
theorem dX5_readAlarm_64 : decode cX5_readAlarm 64 = .ok (.getfield 18, 3) := by decide +kernel
theorem dX5_readAlarm_67 : decode cX5_readAlarm 67 = .ok (.aload_n 0, 1) := by decide +kernel
theorem dX5_readAlarm_68 : decode cX5_readAlarm 68 = .ok (.getfield 91, 3) := by decide +kernel
theorem dX5_readAlarm_71 : decode cX5_readAlarm 71 = .ok (.l2i, 1) := by decide +kernel
theorem dX5_readAlarm_72 : decode cX5_readAlarm 72 = .ok (.putfield 186, 3) := by decide +kernel
theorem dX5_readAlarm_75 : decode cX5_readAlarm 75 = .ok (.aload_n 0, 1) := by decide +kernel
theorem dX5_readAlarm_76 : decode cX5_readAlarm 76 = .ok (.invokevirtual 64, 3) := by decide +kernel
theorem dX5_readAlarm_79 : decode cX5_readAlarm 79 = .ok (.iconst 1, 1) := by decide +kernel
theorem dX5_readAlarm_80 : decode cX5_readAlarm 80 = .ok (.ireturn, 1) := by decide +kernel
theorem dX5_takeSemicolon_0 : decode cX5_takeSemicolon 0 = .ok (.aload_n 0, 1) := by decide +kernel
theorem dX5_takeSemicolon_1 : decode cX5_takeSemicolon 1 = .ok (.getfield 71, 3) := by decide +kernel
theorem dX5_takeSemicolon_4 : decode cX5_takeSemicolon 4 = .ok (.iconst 3, 1) := by decide +kernel
theorem dX5_takeSemicolon_5 : decode cX5_takeSemicolon 5 = .ok (.if_icmp .eq 9, 3) := by decide +kernel
theorem dX5_takeSemicolon_8 : decode cX5_takeSemicolon 8 = .ok (.aload_n 0, 1) := by decide +kernel
theorem dX5_takeSemicolon_9 : decode cX5_takeSemicolon 9 = .ok (.iconst 1, 1) := by decide +kernel
theorem dX5_takeSemicolon_10 : decode cX5_takeSemicolon 10 = .ok (.invokevirtual 77, 3) := by decide +kernel
theorem dX5_takeSemicolon_13 : decode cX5_takeSemicolon 13 = .ok (.ireturn, 1) := by decide +kernel
theorem dX5_takeSemicolon_14 : decode cX5_takeSemicolon 14 = .ok (.aload_n 0, 1) := by decide +kernel
theorem dX5_takeSemicolon_15 : decode cX5_takeSemicolon 15 = .ok (.invokevirtual 64, 3) := by decide +kernel
theorem dX5_takeSemicolon_18 : decode cX5_takeSemicolon 18 = .ok (.iconst 1, 1) := by decide +kernel
theorem dX5_takeSemicolon_19 : decode cX5_takeSemicolon 19 = .ok (.ireturn, 1) := by decide +kernel
theorem dX5_takeNewName_0 : decode cX5_takeNewName 0 = .ok (.aload_n 0, 1) := by decide +kernel
theorem dX5_takeNewName_1 : decode cX5_takeNewName 1 = .ok (.getfield 71, 3) := by decide +kernel
theorem dX5_takeNewName_4 : decode cX5_takeNewName 4 = .ok (.iconst 1, 1) := by decide +kernel
theorem dX5_takeNewName_5 : decode cX5_takeNewName 5 = .ok (.if_icmp .eq 9, 3) := by decide +kernel
theorem dX5_takeNewName_8 : decode cX5_takeNewName 8 = .ok (.aload_n 0, 1) := by decide +kernel
theorem dX5_takeNewName_9 : decode cX5_takeNewName 9 = .ok (.iconst 1, 1) := by decide +kernel
theorem dX5_takeNewName_10 : decode cX5_takeNewName 10 = .ok (.invokevirtual 77, 3) := by decide +kernel
theorem dX5_takeNewName_13 : decode cX5_takeNewName 13 = .ok (.ireturn, 1) := by decide +kernel
theorem dX5_takeNewName_14 : decode cX5_takeNewName 14 = .ok (.aload_n 0, 1) := by decide +kernel
theorem dX5_takeNewName_15 : decode cX5_takeNewName 15 = .ok (.aload_n 1, 1) := by decide +kernel
theorem dX5_takeNewName_16 : decode cX5_takeNewName 16 = .ok (.iload_n 2, 1) := by decide +kernel
theorem dX5_takeNewName_17 : decode cX5_takeNewName 17 = .ok (.invokevirtual 167, 3) := by decide +kernel
theorem dX5_takeNewName_20 : decode cX5_takeNewName 20 = .ok (.iconst (-1), 1) := by decide +kernel
theorem dX5_takeNewName_21 : decode cX5_takeNewName 21 = .ok (.if_icmp .eq 9, 3) := by decide +kernel
theorem dX5_takeNewName_24 : decode cX5_takeNewName 24 = .ok (.aload_n 0, 1) := by decide +kernel
theorem dX5_takeNewName_25 : decode cX5_takeNewName 25 = .ok (.iconst 3, 1) := by decide +kernel
theorem dX5_takeNewName_26 : decode cX5_takeNewName 26 = .ok (.invokevirtual 77, 3) := by decide +kernel
theorem dX5_takeNewName_29 : decode cX5_takeNewName 29 = .ok (.ireturn, 1) := by decide +kernel
theorem dX5_takeNewName_30 : decode cX5_takeNewName 30 = .ok (.iload_n 2, 1) := by decide +kernel
theorem dX5_takeNewName_31 : decode cX5_takeNewName 31 = .ok (.ifCond .lt 16, 3) := by decide +kernel
theorem dX5_takeNewName_34 : decode cX5_takeNewName 34 = .ok (.iload_n 2, 1) := by decide +kernel
theorem dX5_takeNewName_35 : decode cX5_takeNewName 35 = .ok (.aload_n 1, 1) := by decide +kernel
theorem dX5_takeNewName_36 : decode cX5_takeNewName 36 = .ok (.arraylength, 1) := by decide +kernel
theorem dX5_takeNewName_37 : decode cX5_takeNewName 37 = .ok (.if_icmp .ge 10, 3) := by decide +kernel
theorem dX5_takeNewName_40 : decode cX5_takeNewName 40 = .ok (.aload_n 1, 1) := by decide +kernel
theorem dX5_takeNewName_41 : decode cX5_takeNewName 41 = .ok (.iload_n 2, 1) := by decide +kernel
theorem dX5_takeNewName_42 : decode cX5_takeNewName 42 = .ok (.aload_n 0, 1) := by decide +kernel
theorem dX5_takeNewName_43 : decode cX5_takeNewName 43 = .ok (.getfield 91, 3) := by decide +kernel
theorem dX5_takeNewName_46 : decode cX5_takeNewName 46 = .ok (.lastore, 1) := by decide +kernel
theorem dX5_takeNewName_47 : decode cX5_takeNewName 47 = .ok (.aload_n 0, 1) := by decide +kernel
theorem dX5_takeNewName_48 : decode cX5_takeNewName 48 = .ok (.invokevirtual 64, 3) := by decide +kernel
theorem dX5_takeNewName_51 : decode cX5_takeNewName 51 = .ok (.iconst 1, 1) := by decide +kernel
theorem dX5_takeNewName_52 : decode cX5_takeNewName 52 = .ok (.ireturn, 1) := by decide +kernel
theorem dX5_isKnownDevice_0 : decode cX5_isKnownDevice 0 = .ok (.aload_n 0, 1) := by decide +kernel
theorem dX5_isKnownDevice_1 : decode cX5_isKnownDevice 1 = .ok (.getfield 71, 3) := by decide +kernel
theorem dX5_isKnownDevice_4 : decode cX5_isKnownDevice 4 = .ok (.iconst 1, 1) := by decide +kernel
theorem dX5_isKnownDevice_5 : decode cX5_isKnownDevice 5 = .ok (.if_icmp .eq 9, 3) := by decide +kernel
theorem dX5_isKnownDevice_8 : decode cX5_isKnownDevice 8 = .ok (.aload_n 0, 1) := by decide +kernel
theorem dX5_isKnownDevice_9 : decode cX5_isKnownDevice 9 = .ok (.iconst 1, 1) := by decide +kernel
theorem dX5_isKnownDevice_10 : decode cX5_isKnownDevice 10 = .ok (.invokevirtual 77, 3) := by decide +kernel
theorem dX5_isKnownDevice_13 : decode cX5_isKnownDevice 13 = .ok (.ireturn, 1) := by decide +kernel
theorem dX5_isKnownDevice_14 : decode cX5_isKnownDevice 14 = .ok (.aload_n 0, 1) := by decide +kernel
theorem dX5_isKnownDevice_15 : decode cX5_isKnownDevice 15 = .ok (.aload_n 0, 1) := by decide +kernel
theorem dX5_isKnownDevice_16 : decode cX5_isKnownDevice 16 = .ok (.getfield 26, 3) := by decide +kernel
theorem dX5_isKnownDevice_19 : decode cX5_isKnownDevice 19 = .ok (.aload_n 0, 1) := by decide +kernel
theorem dX5_isKnownDevice_20 : decode cX5_isKnownDevice 20 = .ok (.getfield 18, 3) := by decide +kernel
theorem dX5_isKnownDevice_23 : decode cX5_isKnownDevice 23 = .ok (.getfield 151, 3) := by decide +kernel
theorem dX5_isKnownDevice_26 : decode cX5_isKnownDevice 26 = .ok (.invokevirtual 167, 3) := by decide +kernel
theorem dX5_isKnownDevice_29 : decode cX5_isKnownDevice 29 = .ok (.iconst (-1), 1) := by decide +kernel
theorem dX5_isKnownDevice_30 : decode cX5_isKnownDevice 30 = .ok (.if_icmp .ne 11, 3) := by decide +kernel
theorem dX5_isKnownDevice_33 : decode cX5_isKnownDevice 33 = .ok (.aload_n 0, 1) := by decide +kernel
theorem dX5_isKnownDevice_34 : decode cX5_isKnownDevice 34 = .ok (.iconst 2, 1) := by decide +kernel
theorem dX5_isKnownDevice_35 : decode cX5_isKnownDevice 35 = .ok (.invokevirtual 77, 3) := by decide +kernel
theorem dX5_isKnownDevice_38 : decode cX5_isKnownDevice 38 = .ok (.ifCond .eq 7, 3) := by decide +kernel
theorem dX5_isKnownDevice_41 : decode cX5_isKnownDevice 41 = .ok (.iconst 1, 1) := by decide +kernel
theorem dX5_isKnownDevice_42 : decode cX5_isKnownDevice 42 = .ok (.goto 4, 3) := by decide +kernel
theorem dX5_isKnownDevice_45 : decode cX5_isKnownDevice 45 = .ok (.iconst 0, 1) := by decide +kernel
theorem dX5_isKnownDevice_46 : decode cX5_isKnownDevice 46 = .ok (.ireturn, 1) := by decide +kernel
theorem dX5_isNumberWithin_0 : decode cX5_isNumberWithin 0 = .ok (.aload_n 0, 1) := by decide +kernel
theorem dX5_isNumberWithin_1 : decode cX5_isNumberWithin 1 = .ok (.getfield 71, 3) := by decide +kernel
theorem dX5_isNumberWithin_4 : decode cX5_isNumberWithin 4 = .ok (.iconst 2, 1) := by decide +kernel
theorem dX5_isNumberWithin_5 : decode cX5_isNumberWithin 5 = .ok (.if_icmp .eq 9, 3) := by decide +kernel
theorem dX5_isNumberWithin_8 : decode cX5_isNumberWithin 8 = .ok (.aload_n 0, 1) := by decide +kernel
theorem dX5_isNumberWithin_9 : decode cX5_isNumberWithin 9 = .ok (.iconst 1, 1) := by decide +kernel
theorem dX5_isNumberWithin_10 : decode cX5_isNumberWithin 10 = .ok (.invokevirtual 77, 3) := by decide +kernel
theorem dX5_isNumberWithin_13 : decode cX5_isNumberWithin 13 = .ok (.ireturn, 1) := by decide +kernel
theorem dX5_isNumberWithin_14 : decode cX5_isNumberWithin 14 = .ok (.aload_n 0, 1) := by decide +kernel
theorem dX5_isNumberWithin_15 : decode cX5_isNumberWithin 15 = .ok (.getfield 91, 3) := by decide +kernel
theorem dX5_isNumberWithin_18 : decode cX5_isNumberWithin 18 = .ok (.iload_n 1, 1) := by decide +kernel
theorem dX5_isNumberWithin_19 : decode cX5_isNumberWithin 19 = .ok (.i2l, 1) := by decide +kernel
theorem dX5_isNumberWithin_20 : decode cX5_isNumberWithin 20 = .ok (.lcmp, 1) := by decide +kernel
theorem dX5_isNumberWithin_21 : decode cX5_isNumberWithin 21 = .ok (.ifCond .lt 13, 3) := by decide +kernel
theorem dX5_isNumberWithin_24 : decode cX5_isNumberWithin 24 = .ok (.aload_n 0, 1) := by decide +kernel
theorem dX5_isNumberWithin_25 : decode cX5_isNumberWithin 25 = .ok (.getfield 91, 3) := by decide +kernel
theorem dX5_isNumberWithin_28 : decode cX5_isNumberWithin 28 = .ok (.iload_n 2, 1) := by decide +kernel
theorem dX5_isNumberWithin_29 : decode cX5_isNumberWithin 29 = .ok (.i2l, 1) := by decide +kernel
theorem dX5_isNumberWithin_30 : decode cX5_isNumberWithin 30 = .ok (.lcmp, 1) := by decide +kernel
theorem dX5_isNumberWithin_31 : decode cX5_isNumberWithin 31 = .ok (.ifCond .le 11, 3) := by decide +kernel
theorem dX5_isNumberWithin_34 : decode cX5_isNumberWithin 34 = .ok (.aload_n 0, 1) := by decide +kernel
theorem dX5_isNumberWithin_35 : decode cX5_isNumberWithin 35 = .ok (.iconst 4, 1) := by decide +kernel
theorem dX5_isNumberWithin_36 : decode cX5_isNumberWithin 36 = .ok (.invokevirtual 77, 3) := by decide +kernel
theorem dX5_isNumberWithin_39 : decode cX5_isNumberWithin 39 = .ok (.ifCond .eq 7, 3) := by decide +kernel
theorem dX5_isNumberWithin_42 : decode cX5_isNumberWithin 42 = .ok (.iconst 1, 1) := by decide +kernel
theorem dX5_isNumberWithin_43 : decode cX5_isNumberWithin 43 = .ok (.goto 4, 3) := by decide +kernel
theorem dX5_isNumberWithin_46 : decode cX5_isNumberWithin 46 = .ok (.iconst 0, 1) := by decide +kernel
theorem dX5_isNumberWithin_47 : decode cX5_isNumberWithin 47 = .ok (.ireturn, 1) := by decide +kernel
theorem dX5_isTakenPort_0 : decode cX5_isTakenPort 0 = .ok (.iconst 0, 1) := by decide +kernel
theorem dX5_isTakenPort_1 : decode cX5_isTakenPort 1 = .ok (.istore_n 2, 1) := by decide +kernel
theorem dX5_isTakenPort_2 : decode cX5_isTakenPort 2 = .ok (.iload_n 2, 1) := by decide +kernel
theorem dX5_isTakenPort_3 : decode cX5_isTakenPort 3 = .ok (.aload_n 0, 1) := by decide +kernel
theorem dX5_isTakenPort_4 : decode cX5_isTakenPort 4 = .ok (.getfield 18, 3) := by decide +kernel
theorem dX5_isTakenPort_7 : decode cX5_isTakenPort 7 = .ok (.getfield 151, 3) := by decide +kernel
theorem dX5_isTakenPort_10 : decode cX5_isTakenPort 10 = .ok (.if_icmp .ge 30, 3) := by decide +kernel
theorem dX5_isTakenPort_13 : decode cX5_isTakenPort 13 = .ok (.iload_n 2, 1) := by decide +kernel
theorem dX5_isTakenPort_14 : decode cX5_isTakenPort 14 = .ok (.bipush 8, 2) := by decide +kernel
theorem dX5_isTakenPort_16 : decode cX5_isTakenPort 16 = .ok (.if_icmp .ge 24, 3) := by decide +kernel
theorem dX5_isTakenPort_19 : decode cX5_isTakenPort 19 = .ok (.aload_n 0, 1) := by decide +kernel
theorem dX5_isTakenPort_20 : decode cX5_isTakenPort 20 = .ok (.getfield 18, 3) := by decide +kernel
theorem dX5_isTakenPort_23 : decode cX5_isTakenPort 23 = .ok (.getfield 157, 3) := by decide +kernel
theorem dX5_isTakenPort_26 : decode cX5_isTakenPort 26 = .ok (.iload_n 2, 1) := by decide +kernel
theorem dX5_isTakenPort_27 : decode cX5_isTakenPort 27 = .ok (.iaload, 1) := by decide +kernel
theorem dX5_isTakenPort_28 : decode cX5_isTakenPort 28 = .ok (.iload_n 1, 1) := by decide +kernel
theorem dX5_isTakenPort_29 : decode cX5_isTakenPort 29 = .ok (.if_icmp .ne 5, 3) := by decide +kernel
theorem dX5_isTakenPort_32 : decode cX5_isTakenPort 32 = .ok (.iconst 1, 1) := by decide +kernel
theorem dX5_isTakenPort_33 : decode cX5_isTakenPort 33 = .ok (.ireturn, 1) := by decide +kernel
theorem dX5_isTakenPort_34 : decode cX5_isTakenPort 34 = .ok (.iinc 2 1, 3) := by decide +kernel
theorem dX5_isTakenPort_37 : decode cX5_isTakenPort 37 = .ok (.goto (-35), 3) := by decide +kernel
theorem dX5_isTakenPort_40 : decode cX5_isTakenPort 40 = .ok (.iconst 0, 1) := by decide +kernel
theorem dX5_isTakenPort_41 : decode cX5_isTakenPort 41 = .ok (.ireturn, 1) := by decide +kernel
theorem dX5_indexOfWord_0 : decode cX5_indexOfWord 0 = .ok (.iconst 0, 1) := by decide +kernel
theorem dX5_indexOfWord_1 : decode cX5_indexOfWord 1 = .ok (.istore_n 3, 1) := by decide +kernel
theorem dX5_indexOfWord_2 : decode cX5_indexOfWord 2 = .ok (.iload_n 3, 1) := by decide +kernel
theorem dX5_indexOfWord_3 : decode cX5_indexOfWord 3 = .ok (.iload_n 2, 1) := by decide +kernel
theorem dX5_indexOfWord_4 : decode cX5_indexOfWord 4 = .ok (.if_icmp .ge 28, 3) := by decide +kernel
theorem dX5_indexOfWord_7 : decode cX5_indexOfWord 7 = .ok (.iload_n 3, 1) := by decide +kernel
theorem dX5_indexOfWord_8 : decode cX5_indexOfWord 8 = .ok (.aload_n 1, 1) := by decide +kernel
theorem dX5_indexOfWord_9 : decode cX5_indexOfWord 9 = .ok (.arraylength, 1) := by decide +kernel
theorem dX5_indexOfWord_10 : decode cX5_indexOfWord 10 = .ok (.if_icmp .ge 22, 3) := by decide +kernel
theorem dX5_indexOfWord_13 : decode cX5_indexOfWord 13 = .ok (.aload_n 1, 1) := by decide +kernel
theorem dX5_indexOfWord_14 : decode cX5_indexOfWord 14 = .ok (.iload_n 3, 1) := by decide +kernel
theorem dX5_indexOfWord_15 : decode cX5_indexOfWord 15 = .ok (.laload, 1) := by decide +kernel
theorem dX5_indexOfWord_16 : decode cX5_indexOfWord 16 = .ok (.aload_n 0, 1) := by decide +kernel
theorem dX5_indexOfWord_17 : decode cX5_indexOfWord 17 = .ok (.getfield 91, 3) := by decide +kernel
theorem dX5_indexOfWord_20 : decode cX5_indexOfWord 20 = .ok (.lcmp, 1) := by decide +kernel
theorem dX5_indexOfWord_21 : decode cX5_indexOfWord 21 = .ok (.ifCond .ne 5, 3) := by decide +kernel
theorem dX5_indexOfWord_24 : decode cX5_indexOfWord 24 = .ok (.iload_n 3, 1) := by decide +kernel
theorem dX5_indexOfWord_25 : decode cX5_indexOfWord 25 = .ok (.ireturn, 1) := by decide +kernel
theorem dX5_indexOfWord_26 : decode cX5_indexOfWord 26 = .ok (.iinc 3 1, 3) := by decide +kernel
theorem dX5_indexOfWord_29 : decode cX5_indexOfWord 29 = .ok (.goto (-27), 3) := by decide +kernel
theorem dX5_indexOfWord_32 : decode cX5_indexOfWord 32 = .ok (.iconst (-1), 1) := by decide +kernel
theorem dX5_indexOfWord_33 : decode cX5_indexOfWord 33 = .ok (.ireturn, 1) := by decide +kernel
theorem dX5_kindOfWord_0 : decode cX5_kindOfWord 0 = .ok (.aload_n 0, 1) := by decide +kernel
theorem dX5_kindOfWord_1 : decode cX5_kindOfWord 1 = .ok (.ldc 189, 2) := by decide +kernel
theorem dX5_kindOfWord_3 : decode cX5_kindOfWord 3 = .ok (.invokevirtual 83, 3) := by decide +kernel
theorem dX5_kindOfWord_6 : decode cX5_kindOfWord 6 = .ok (.ifCond .eq 5, 3) := by decide +kernel
theorem dX5_kindOfWord_9 : decode cX5_kindOfWord 9 = .ok (.iconst 0, 1) := by decide +kernel
theorem dX5_kindOfWord_10 : decode cX5_kindOfWord 10 = .ok (.ireturn, 1) := by decide +kernel
theorem dX5_kindOfWord_11 : decode cX5_kindOfWord 11 = .ok (.aload_n 0, 1) := by decide +kernel
theorem dX5_kindOfWord_12 : decode cX5_kindOfWord 12 = .ok (.ldc 191, 2) := by decide +kernel
theorem dX5_kindOfWord_14 : decode cX5_kindOfWord 14 = .ok (.invokevirtual 83, 3) := by decide +kernel
theorem dX5_kindOfWord_17 : decode cX5_kindOfWord 17 = .ok (.ifCond .eq 5, 3) := by decide +kernel
theorem dX5_kindOfWord_20 : decode cX5_kindOfWord 20 = .ok (.iconst 1, 1) := by decide +kernel
theorem dX5_kindOfWord_21 : decode cX5_kindOfWord 21 = .ok (.ireturn, 1) := by decide +kernel
theorem dX5_kindOfWord_22 : decode cX5_kindOfWord 22 = .ok (.aload_n 0, 1) := by decide +kernel
theorem dX5_kindOfWord_23 : decode cX5_kindOfWord 23 = .ok (.ldc 193, 2) := by decide +kernel
theorem dX5_kindOfWord_25 : decode cX5_kindOfWord 25 = .ok (.invokevirtual 83, 3) := by decide +kernel
theorem dX5_kindOfWord_28 : decode cX5_kindOfWord 28 = .ok (.ifCond .eq 5, 3) := by decide +kernel
theorem dX5_kindOfWord_31 : decode cX5_kindOfWord 31 = .ok (.iconst 2, 1) := by decide +kernel
theorem dX5_kindOfWord_32 : decode cX5_kindOfWord 32 = .ok (.ireturn, 1) := by decide +kernel
theorem dX5_kindOfWord_33 : decode cX5_kindOfWord 33 = .ok (.aload_n 0, 1) := by decide +kernel
theorem dX5_kindOfWord_34 : decode cX5_kindOfWord 34 = .ok (.ldc 195, 2) := by decide +kernel
theorem dX5_kindOfWord_36 : decode cX5_kindOfWord 36 = .ok (.invokevirtual 83, 3) := by decide +kernel
theorem dX5_kindOfWord_39 : decode cX5_kindOfWord 39 = .ok (.ifCond .eq 7, 3) := by decide +kernel
theorem dX5_kindOfWord_42 : decode cX5_kindOfWord 42 = .ok (.iconst 3, 1) := by decide +kernel
theorem dX5_kindOfWord_43 : decode cX5_kindOfWord 43 = .ok (.goto 4, 3) := by decide +kernel
theorem dX5_kindOfWord_46 : decode cX5_kindOfWord 46 = .ok (.iconst (-1), 1) := by decide +kernel
theorem dX5_kindOfWord_47 : decode cX5_kindOfWord 47 = .ok (.ireturn, 1) := by decide +kernel
theorem dX5_isWord_0 : decode cX5_isWord 0 = .ok (.aload_n 0, 1) := by decide +kernel
theorem dX5_isWord_1 : decode cX5_isWord 1 = .ok (.getfield 71, 3) := by decide +kernel
theorem dX5_isWord_4 : decode cX5_isWord 4 = .ok (.iconst 1, 1) := by decide +kernel
theorem dX5_isWord_5 : decode cX5_isWord 5 = .ok (.if_icmp .ne 19, 3) := by decide +kernel
theorem dX5_isWord_8 : decode cX5_isWord 8 = .ok (.aload_n 0, 1) := by decide +kernel
theorem dX5_isWord_9 : decode cX5_isWord 9 = .ok (.getfield 54, 3) := by decide +kernel
theorem dX5_isWord_12 : decode cX5_isWord 12 = .ok (.aload_n 0, 1) := by decide +kernel
theorem dX5_isWord_13 : decode cX5_isWord 13 = .ok (.getfield 197, 3) := by decide +kernel
theorem dX5_isWord_16 : decode cX5_isWord 16 = .ok (.isub, 1) := by decide +kernel
theorem dX5_isWord_17 : decode cX5_isWord 17 = .ok (.aload_n 1, 1) := by decide +kernel
theorem dX5_isWord_18 : decode cX5_isWord 18 = .ok (.invokevirtual 200, 3) := by decide +kernel
theorem dX5_isWord_21 : decode cX5_isWord 21 = .ok (.if_icmp .eq 5, 3) := by decide +kernel
theorem dX5_isWord_24 : decode cX5_isWord 24 = .ok (.iconst 0, 1) := by decide +kernel
theorem dX5_isWord_25 : decode cX5_isWord 25 = .ok (.ireturn, 1) := by decide +kernel
theorem dX5_isWord_26 : decode cX5_isWord 26 = .ok (.iconst 0, 1) := by decide +kernel
theorem dX5_isWord_27 : decode cX5_isWord 27 = .ok (.istore_n 2, 1) := by decide +kernel
theorem dX5_isWord_28 : decode cX5_isWord 28 = .ok (.iload_n 2, 1) := by decide +kernel
theorem dX5_isWord_29 : decode cX5_isWord 29 = .ok (.aload_n 1, 1) := by decide +kernel
theorem dX5_isWord_30 : decode cX5_isWord 30 = .ok (.invokevirtual 200, 3) := by decide +kernel
theorem dX5_isWord_33 : decode cX5_isWord 33 = .ok (.if_icmp .ge 30, 3) := by decide +kernel
theorem dX5_isWord_36 : decode cX5_isWord 36 = .ok (.aload_n 0, 1) := by decide +kernel
theorem dX5_isWord_37 : decode cX5_isWord 37 = .ok (.getfield 9, 3) := by decide +kernel
theorem dX5_isWord_40 : decode cX5_isWord 40 = .ok (.aload_n 0, 1) := by decide +kernel
theorem dX5_isWord_41 : decode cX5_isWord 41 = .ok (.getfield 197, 3) := by decide +kernel
theorem dX5_isWord_44 : decode cX5_isWord 44 = .ok (.iload_n 2, 1) := by decide +kernel
theorem dX5_isWord_45 : decode cX5_isWord 45 = .ok (.iadd, 1) := by decide +kernel
theorem dX5_isWord_46 : decode cX5_isWord 46 = .ok (.baload, 1) := by decide +kernel
theorem dX5_isWord_47 : decode cX5_isWord 47 = .ok (.aload_n 1, 1) := by decide +kernel
theorem dX5_isWord_48 : decode cX5_isWord 48 = .ok (.iload_n 2, 1) := by decide +kernel
theorem dX5_isWord_49 : decode cX5_isWord 49 = .ok (.invokevirtual 205, 3) := by decide +kernel
theorem dX5_isWord_52 : decode cX5_isWord 52 = .ok (.if_icmp .eq 5, 3) := by decide +kernel
theorem dX5_isWord_55 : decode cX5_isWord 55 = .ok (.iconst 0, 1) := by decide +kernel
theorem dX5_isWord_56 : decode cX5_isWord 56 = .ok (.ireturn, 1) := by decide +kernel
theorem dX5_isWord_57 : decode cX5_isWord 57 = .ok (.iinc 2 1, 3) := by decide +kernel
theorem dX5_isWord_60 : decode cX5_isWord 60 = .ok (.goto (-32), 3) := by decide +kernel
theorem dX5_isWord_63 : decode cX5_isWord 63 = .ok (.iconst 1, 1) := by decide +kernel
theorem dX5_isWord_64 : decode cX5_isWord 64 = .ok (.ireturn, 1) := by decide +kernel
theorem dX5_fault_0 : decode cX5_fault 0 = .ok (.aload_n 0, 1) := by decide +kernel
theorem dX5_fault_1 : decode cX5_fault 1 = .ok (.aload_n 0, 1) := by decide +kernel
theorem dX5_fault_2 : decode cX5_fault 2 = .ok (.getfield 197, 3) := by decide +kernel
theorem dX5_fault_5 : decode cX5_fault 5 = .ok (.putfield 36, 3) := by decide +kernel
theorem dX5_fault_8 : decode cX5_fault 8 = .ok (.aload_n 0, 1) := by decide +kernel
theorem dX5_fault_9 : decode cX5_fault 9 = .ok (.iload_n 1, 1) := by decide +kernel
theorem dX5_fault_10 : decode cX5_fault 10 = .ok (.putfield 39, 3) := by decide +kernel
theorem dX5_fault_13 : decode cX5_fault 13 = .ok (.iconst 0, 1) := by decide +kernel
theorem dX5_fault_14 : decode cX5_fault 14 = .ok (.ireturn, 1) := by decide +kernel
theorem dX5_advance_0 : decode cX5_advance 0 = .ok (.aload_n 0, 1) := by decide +kernel
theorem dX5_advance_1 : decode cX5_advance 1 = .ok (.getfield 54, 3) := by decide +kernel
theorem dX5_advance_4 : decode cX5_advance 4 = .ok (.aload_n 0, 1) := by decide +kernel
theorem dX5_advance_5 : decode cX5_advance 5 = .ok (.getfield 51, 3) := by decide +kernel
theorem dX5_advance_8 : decode cX5_advance 8 = .ok (.if_icmp .ge 32, 3) := by decide +kernel
theorem dX5_advance_11 : decode cX5_advance 11 = .ok (.aload_n 0, 1) := by decide +kernel
theorem dX5_advance_12 : decode cX5_advance 12 = .ok (.getfield 9, 3) := by decide +kernel
theorem dX5_advance_15 : decode cX5_advance 15 = .ok (.aload_n 0, 1) := by decide +kernel
theorem dX5_advance_16 : decode cX5_advance 16 = .ok (.getfield 54, 3) := by decide +kernel
theorem dX5_advance_19 : decode cX5_advance 19 = .ok (.baload, 1) := by decide +kernel
theorem dX5_advance_20 : decode cX5_advance 20 = .ok (.invokestatic 209, 3) := by decide +kernel
theorem dX5_advance_23 : decode cX5_advance 23 = .ok (.iconst 5, 1) := by decide +kernel
theorem dX5_advance_24 : decode cX5_advance 24 = .ok (.if_icmp .ne 16, 3) := by decide +kernel
theorem dX5_advance_27 : decode cX5_advance 27 = .ok (.aload_n 0, 1) := by decide +kernel
theorem dX5_advance_28 : decode cX5_advance 28 = .ok (.dup, 1) := by decide +kernel
theorem dX5_advance_29 : decode cX5_advance 29 = .ok (.getfield 54, 3) := by decide +kernel
theorem dX5_advance_32 : decode cX5_advance 32 = .ok (.iconst 1, 1) := by decide +kernel
theorem dX5_advance_33 : decode cX5_advance 33 = .ok (.iadd, 1) := by decide +kernel
theorem dX5_advance_34 : decode cX5_advance 34 = .ok (.putfield 54, 3) := by decide +kernel
theorem dX5_advance_37 : decode cX5_advance 37 = .ok (.goto (-37), 3) := by decide +kernel
theorem dX5_advance_40 : decode cX5_advance 40 = .ok (.aload_n 0, 1) := by decide +kernel
theorem dX5_advance_41 : decode cX5_advance 41 = .ok (.aload_n 0, 1) := by decide +kernel
theorem dX5_advance_42 : decode cX5_advance 42 = .ok (.getfield 54, 3) := by decide +kernel
theorem dX5_advance_45 : decode cX5_advance 45 = .ok (.putfield 197, 3) := by decide +kernel
theorem dX5_advance_48 : decode cX5_advance 48 = .ok (.aload_n 0, 1) := by decide +kernel
theorem dX5_advance_49 : decode cX5_advance 49 = .ok (.aload_n 0, 1) := by decide +kernel
theorem dX5_advance_50 : decode cX5_advance 50 = .ok (.getfield 54, 3) := by decide +kernel
theorem dX5_advance_53 : decode cX5_advance 53 = .ok (.aload_n 0, 1) := by decide +kernel
theorem dX5_advance_54 : decode cX5_advance 54 = .ok (.getfield 51, 3) := by decide +kernel
theorem dX5_advance_57 : decode cX5_advance 57 = .ok (.if_icmp .ge 18, 3) := by decide +kernel
theorem dX5_advance_60 : decode cX5_advance 60 = .ok (.aload_n 0, 1) := by decide +kernel
theorem dX5_advance_61 : decode cX5_advance 61 = .ok (.getfield 9, 3) := by decide +kernel
theorem dX5_advance_64 : decode cX5_advance 64 = .ok (.aload_n 0, 1) := by decide +kernel
theorem dX5_advance_65 : decode cX5_advance 65 = .ok (.getfield 54, 3) := by decide +kernel
theorem dX5_advance_68 : decode cX5_advance 68 = .ok (.baload, 1) := by decide +kernel
theorem dX5_advance_69 : decode cX5_advance 69 = .ok (.invokestatic 209, 3) := by decide +kernel
theorem dX5_advance_72 : decode cX5_advance 72 = .ok (.goto 4, 3) := by decide +kernel
theorem dX5_advance_75 : decode cX5_advance 75 = .ok (.iconst 0, 1) := by decide +kernel
theorem dX5_advance_76 : decode cX5_advance 76 = .ok (.putfield 71, 3) := by decide +kernel
theorem dX5_advance_79 : decode cX5_advance 79 = .ok (.aload_n 0, 1) := by decide +kernel
theorem dX5_advance_80 : decode cX5_advance 80 = .ok (.getfield 71, 3) := by decide +kernel
theorem dX5_advance_83 : decode cX5_advance 83 = .ok (.iconst 1, 1) := by decide +kernel
theorem dX5_advance_84 : decode cX5_advance 84 = .ok (.if_icmp .eq 29, 3) := by decide +kernel
theorem dX5_advance_87 : decode cX5_advance 87 = .ok (.aload_n 0, 1) := by decide +kernel
theorem dX5_advance_88 : decode cX5_advance 88 = .ok (.getfield 71, 3) := by decide +kernel
theorem dX5_advance_91 : decode cX5_advance 91 = .ok (.iconst 2, 1) := by decide +kernel
theorem dX5_advance_92 : decode cX5_advance 92 = .ok (.if_icmp .eq 21, 3) := by decide +kernel
theorem dX5_advance_95 : decode cX5_advance 95 = .ok (.aload_n 0, 1) := by decide +kernel
theorem dX5_advance_96 : decode cX5_advance 96 = .ok (.aload_n 0, 1) := by decide +kernel
theorem dX5_advance_97 : decode cX5_advance 97 = .ok (.getfield 54, 3) := by decide +kernel
theorem dX5_advance_100 : decode cX5_advance 100 = .ok (.iconst 1, 1) := by decide +kernel
theorem dX5_advance_101 : decode cX5_advance 101 = .ok (.iadd, 1) := by decide +kernel
theorem dX5_advance_102 : decode cX5_advance 102 = .ok (.aload_n 0, 1) := by decide +kernel
theorem dX5_advance_103 : decode cX5_advance 103 = .ok (.getfield 51, 3) := by decide +kernel
theorem dX5_advance_106 : decode cX5_advance 106 = .ok (.invokestatic 42, 3) := by decide +kernel
theorem dX5_advance_109 : decode cX5_advance 109 = .ok (.putfield 54, 3) := by decide +kernel
theorem dX5_advance_112 : decode cX5_advance 112 = .ok (.return_, 1) := by decide +kernel
theorem dX5_advance_113 : decode cX5_advance 113 = .ok (.aload_n 0, 1) := by decide +kernel
theorem dX5_advance_114 : decode cX5_advance 114 = .ok (.getfield 71, 3) := by decide +kernel
theorem dX5_advance_117 : decode cX5_advance 117 = .ok (.iconst 1, 1) := by decide +kernel
theorem dX5_advance_118 : decode cX5_advance 118 = .ok (.if_icmp .ne 8, 3) := by decide +kernel
theorem dX5_advance_121 : decode cX5_advance 121 = .ok (.bipush 27, 2) := by decide +kernel
theorem dX5_advance_123 : decode cX5_advance 123 = .ok (.goto 5, 3) := by decide +kernel
theorem dX5_advance_126 : decode cX5_advance 126 = .ok (.bipush 10, 2) := by decide +kernel
theorem dX5_advance_128 : decode cX5_advance 128 = .ok (.istore_n 1, 1) := by decide +kernel
theorem dX5_advance_129 : decode cX5_advance 129 = .ok (.aload_n 0, 1) := by decide +kernel
theorem dX5_advance_130 : decode cX5_advance 130 = .ok (.getfield 71, 3) := by decide +kernel
theorem dX5_advance_133 : decode cX5_advance 133 = .ok (.iconst 1, 1) := by decide +kernel
theorem dX5_advance_134 : decode cX5_advance 134 = .ok (.if_icmp .ne 8, 3) := by decide +kernel
theorem dX5_advance_137 : decode cX5_advance 137 = .ok (.bipush 96, 2) := by decide +kernel
theorem dX5_advance_139 : decode cX5_advance 139 = .ok (.goto 5, 3) := by decide +kernel
theorem dX5_advance_142 : decode cX5_advance 142 = .ok (.bipush 48, 2) := by decide +kernel
theorem dX5_advance_144 : decode cX5_advance 144 = .ok (.istore_n 2, 1) := by decide +kernel
theorem dX5_advance_145 : decode cX5_advance 145 = .ok (.aload_n 0, 1) := by decide +kernel
theorem dX5_advance_146 : decode cX5_advance 146 = .ok (.lconst 0, 1) := by decide +kernel
theorem dX5_advance_147 : decode cX5_advance 147 = .ok (.putfield 91, 3) := by decide +kernel
theorem dX5_advance_150 : decode cX5_advance 150 = .ok (.aload_n 0, 1) := by decide +kernel
theorem dX5_advance_151 : decode cX5_advance 151 = .ok (.getfield 54, 3) := by decide +kernel
theorem dX5_advance_154 : decode cX5_advance 154 = .ok (.aload_n 0, 1) := by decide +kernel
theorem dX5_advance_155 : decode cX5_advance 155 = .ok (.getfield 51, 3) := by decide +kernel
theorem dX5_advance_158 : decode cX5_advance 158 = .ok (.if_icmp .ge 59, 3) := by decide +kernel
theorem dX5_advance_161 : decode cX5_advance 161 = .ok (.aload_n 0, 1) := by decide +kernel
theorem dX5_advance_162 : decode cX5_advance 162 = .ok (.getfield 9, 3) := by decide +kernel
theorem dX5_advance_165 : decode cX5_advance 165 = .ok (.aload_n 0, 1) := by decide +kernel
theorem dX5_advance_166 : decode cX5_advance 166 = .ok (.getfield 54, 3) := by decide +kernel
theorem dX5_advance_169 : decode cX5_advance 169 = .ok (.baload, 1) := by decide +kernel
theorem dX5_advance_170 : decode cX5_advance 170 = .ok (.invokestatic 209, 3) := by decide +kernel
theorem dX5_advance_173 : decode cX5_advance 173 = .ok (.aload_n 0, 1) := by decide +kernel
theorem dX5_advance_174 : decode cX5_advance 174 = .ok (.getfield 71, 3) := by decide +kernel
theorem dX5_advance_177 : decode cX5_advance 177 = .ok (.if_icmp .ne 40, 3) := by decide +kernel
theorem dX5_advance_180 : decode cX5_advance 180 = .ok (.aload_n 0, 1) := by decide +kernel
theorem dX5_advance_181 : decode cX5_advance 181 = .ok (.aload_n 0, 1) := by decide +kernel
theorem dX5_advance_182 : decode cX5_advance 182 = .ok (.getfield 91, 3) := by decide +kernel
theorem dX5_advance_185 : decode cX5_advance 185 = .ok (.iload_n 1, 1) := by decide +kernel
theorem dX5_advance_186 : decode cX5_advance 186 = .ok (.i2l, 1) := by decide +kernel
theorem dX5_advance_187 : decode cX5_advance 187 = .ok (.lmul, 1) := by decide +kernel
theorem dX5_advance_188 : decode cX5_advance 188 = .ok (.aload_n 0, 1) := by decide +kernel
theorem dX5_advance_189 : decode cX5_advance 189 = .ok (.getfield 9, 3) := by decide +kernel
theorem dX5_advance_192 : decode cX5_advance 192 = .ok (.aload_n 0, 1) := by decide +kernel
theorem dX5_advance_193 : decode cX5_advance 193 = .ok (.getfield 54, 3) := by decide +kernel
theorem dX5_advance_196 : decode cX5_advance 196 = .ok (.baload, 1) := by decide +kernel
theorem dX5_advance_197 : decode cX5_advance 197 = .ok (.iload_n 2, 1) := by decide +kernel
theorem dX5_advance_198 : decode cX5_advance 198 = .ok (.isub, 1) := by decide +kernel
theorem dX5_advance_199 : decode cX5_advance 199 = .ok (.i2l, 1) := by decide +kernel
theorem dX5_advance_200 : decode cX5_advance 200 = .ok (.ladd, 1) := by decide +kernel
theorem dX5_advance_201 : decode cX5_advance 201 = .ok (.putfield 91, 3) := by decide +kernel
theorem dX5_advance_204 : decode cX5_advance 204 = .ok (.aload_n 0, 1) := by decide +kernel
theorem dX5_advance_205 : decode cX5_advance 205 = .ok (.dup, 1) := by decide +kernel
theorem dX5_advance_206 : decode cX5_advance 206 = .ok (.getfield 54, 3) := by decide +kernel
theorem dX5_advance_209 : decode cX5_advance 209 = .ok (.iconst 1, 1) := by decide +kernel
theorem dX5_advance_210 : decode cX5_advance 210 = .ok (.iadd, 1) := by decide +kernel
theorem dX5_advance_211 : decode cX5_advance 211 = .ok (.putfield 54, 3) := by decide +kernel
theorem dX5_advance_214 : decode cX5_advance 214 = .ok (.goto (-64), 3) := by decide +kernel
theorem dX5_advance_217 : decode cX5_advance 217 = .ok (.aload_n 0, 1) := by decide +kernel
theorem dX5_advance_218 : decode cX5_advance 218 = .ok (.getfield 54, 3) := by decide +kernel
theorem dX5_advance_221 : decode cX5_advance 221 = .ok (.aload_n 0, 1) := by decide +kernel
theorem dX5_advance_222 : decode cX5_advance 222 = .ok (.getfield 197, 3) := by decide +kernel
theorem dX5_advance_225 : decode cX5_advance 225 = .ok (.isub, 1) := by decide +kernel
theorem dX5_advance_226 : decode cX5_advance 226 = .ok (.aload_n 0, 1) := by decide +kernel
theorem dX5_advance_227 : decode cX5_advance 227 = .ok (.getfield 71, 3) := by decide +kernel
theorem dX5_advance_230 : decode cX5_advance 230 = .ok (.iconst 1, 1) := by decide +kernel
theorem dX5_advance_231 : decode cX5_advance 231 = .ok (.if_icmp .ne 8, 3) := by decide +kernel
theorem dX5_advance_234 : decode cX5_advance 234 = .ok (.bipush 8, 2) := by decide +kernel
theorem dX5_advance_236 : decode cX5_advance 236 = .ok (.goto 4, 3) := by decide +kernel
theorem dX5_advance_239 : decode cX5_advance 239 = .ok (.iconst 4, 1) := by decide +kernel
theorem dX5_advance_240 : decode cX5_advance 240 = .ok (.if_icmp .le 8, 3) := by decide +kernel
theorem dX5_advance_243 : decode cX5_advance 243 = .ok (.aload_n 0, 1) := by decide +kernel
theorem dX5_advance_244 : decode cX5_advance 244 = .ok (.iconst 4, 1) := by decide +kernel
theorem dX5_advance_245 : decode cX5_advance 245 = .ok (.putfield 71, 3) := by decide +kernel
theorem dX5_advance_248 : decode cX5_advance 248 = .ok (.return_, 1) := by decide +kernel
theorem dX5_kindOfSign_0 : decode cX5_kindOfSign 0 = .ok (.iload_n 0, 1) := by decide +kernel
theorem dX5_kindOfSign_1 : decode cX5_kindOfSign 1 = .ok (.bipush 32, 2) := by decide +kernel
theorem dX5_kindOfSign_3 : decode cX5_kindOfSign 3 = .ok (.if_icmp .eq 9, 3) := by decide +kernel
theorem dX5_kindOfSign_6 : decode cX5_kindOfSign 6 = .ok (.iload_n 0, 1) := by decide +kernel
theorem dX5_kindOfSign_7 : decode cX5_kindOfSign 7 = .ok (.bipush 10, 2) := by decide +kernel
theorem dX5_kindOfSign_9 : decode cX5_kindOfSign 9 = .ok (.if_icmp .ne 5, 3) := by decide +kernel
theorem dX5_kindOfSign_12 : decode cX5_kindOfSign 12 = .ok (.iconst 5, 1) := by decide +kernel
theorem dX5_kindOfSign_13 : decode cX5_kindOfSign 13 = .ok (.ireturn, 1) := by decide +kernel
theorem dX5_kindOfSign_14 : decode cX5_kindOfSign 14 = .ok (.iload_n 0, 1) := by decide +kernel
theorem dX5_kindOfSign_15 : decode cX5_kindOfSign 15 = .ok (.bipush 97, 2) := by decide +kernel
theorem dX5_kindOfSign_17 : decode cX5_kindOfSign 17 = .ok (.if_icmp .lt 11, 3) := by decide +kernel
theorem dX5_kindOfSign_20 : decode cX5_kindOfSign 20 = .ok (.iload_n 0, 1) := by decide +kernel
theorem dX5_kindOfSign_21 : decode cX5_kindOfSign 21 = .ok (.bipush 122, 2) := by decide +kernel
theorem dX5_kindOfSign_23 : decode cX5_kindOfSign 23 = .ok (.if_icmp .gt 5, 3) := by decide +kernel
theorem dX5_kindOfSign_26 : decode cX5_kindOfSign 26 = .ok (.iconst 1, 1) := by decide +kernel
theorem dX5_kindOfSign_27 : decode cX5_kindOfSign 27 = .ok (.ireturn, 1) := by decide +kernel
theorem dX5_kindOfSign_28 : decode cX5_kindOfSign 28 = .ok (.iload_n 0, 1) := by decide +kernel
theorem dX5_kindOfSign_29 : decode cX5_kindOfSign 29 = .ok (.bipush 48, 2) := by decide +kernel
theorem dX5_kindOfSign_31 : decode cX5_kindOfSign 31 = .ok (.if_icmp .lt 11, 3) := by decide +kernel
theorem dX5_kindOfSign_34 : decode cX5_kindOfSign 34 = .ok (.iload_n 0, 1) := by decide +kernel
theorem dX5_kindOfSign_35 : decode cX5_kindOfSign 35 = .ok (.bipush 57, 2) := by decide +kernel
theorem dX5_kindOfSign_37 : decode cX5_kindOfSign 37 = .ok (.if_icmp .gt 5, 3) := by decide +kernel
theorem dX5_kindOfSign_40 : decode cX5_kindOfSign 40 = .ok (.iconst 2, 1) := by decide +kernel
theorem dX5_kindOfSign_41 : decode cX5_kindOfSign 41 = .ok (.ireturn, 1) := by decide +kernel
theorem dX5_kindOfSign_42 : decode cX5_kindOfSign 42 = .ok (.iload_n 0, 1) := by decide +kernel
theorem dX5_kindOfSign_43 : decode cX5_kindOfSign 43 = .ok (.bipush 59, 2) := by decide +kernel
theorem dX5_kindOfSign_45 : decode cX5_kindOfSign 45 = .ok (.if_icmp .ne 7, 3) := by decide +kernel
theorem dX5_kindOfSign_48 : decode cX5_kindOfSign 48 = .ok (.iconst 3, 1) := by decide +kernel
theorem dX5_kindOfSign_49 : decode cX5_kindOfSign 49 = .ok (.goto 4, 3) := by decide +kernel
theorem dX5_kindOfSign_52 : decode cX5_kindOfSign 52 = .ok (.iconst 4, 1) := by decide +kernel
theorem dX5_kindOfSign_53 : decode cX5_kindOfSign 53 = .ok (.ireturn, 1) := by decide +kernel
theorem dX6_init_0 : decode cX6_init 0 = .ok (.aload_n 0, 1) := by decide +kernel
theorem dX6_init_1 : decode cX6_init 1 = .ok (.invokespecial 3, 3) := by decide +kernel
theorem dX6_init_4 : decode cX6_init 4 = .ok (.aload_n 0, 1) := by decide +kernel
theorem dX6_init_5 : decode cX6_init 5 = .ok (.bipush 8, 2) := by decide +kernel
theorem dX6_init_7 : decode cX6_init 7 = .ok (.newarray .int, 2) := by decide +kernel
theorem dX6_init_9 : decode cX6_init 9 = .ok (.putfield 9, 3) := by decide +kernel
theorem dX6_init_12 : decode cX6_init 12 = .ok (.aload_n 0, 1) := by decide +kernel
theorem dX6_init_13 : decode cX6_init 13 = .ok (.bipush 8, 2) := by decide +kernel
theorem dX6_init_15 : decode cX6_init 15 = .ok (.newarray .int, 2) := by decide +kernel
theorem dX6_init_17 : decode cX6_init 17 = .ok (.putfield 15, 3) := by decide +kernel
theorem dX6_init_20 : decode cX6_init 20 = .ok (.aload_n 0, 1) := by decide +kernel
theorem dX6_init_21 : decode cX6_init 21 = .ok (.bipush 12, 2) := by decide +kernel
theorem dX6_init_23 : decode cX6_init 23 = .ok (.newarray .int, 2) := by decide +kernel
theorem dX6_init_25 : decode cX6_init 25 = .ok (.putfield 18, 3) := by decide +kernel
theorem dX6_init_28 : decode cX6_init 28 = .ok (.aload_n 0, 1) := by decide +kernel
theorem dX6_init_29 : decode cX6_init 29 = .ok (.bipush 12, 2) := by decide +kernel
theorem dX6_init_31 : decode cX6_init 31 = .ok (.newarray .int, 2) := by decide +kernel
theorem dX6_init_33 : decode cX6_init 33 = .ok (.putfield 21, 3) := by decide +kernel
theorem dX6_init_36 : decode cX6_init 36 = .ok (.aload_n 0, 1) := by decide +kernel
theorem dX6_init_37 : decode cX6_init 37 = .ok (.bipush 12, 2) := by decide +kernel
theorem dX6_init_39 : decode cX6_init 39 = .ok (.newarray .int, 2) := by decide +kernel
theorem dX6_init_41 : decode cX6_init 41 = .ok (.putfield 24, 3) := by decide +kernel
theorem dX6_init_44 : decode cX6_init 44 = .ok (.aload_n 0, 1) := by decide +kernel
theorem dX6_init_45 : decode cX6_init 45 = .ok (.bipush 12, 2) := by decide +kernel
theorem dX6_init_47 : decode cX6_init 47 = .ok (.newarray .long, 2) := by decide +kernel
theorem dX6_init_49 : decode cX6_init 49 = .ok (.putfield 27, 3) := by decide +kernel
theorem dX6_init_52 : decode cX6_init 52 = .ok (.aload_n 0, 1) := by decide +kernel
theorem dX6_init_53 : decode cX6_init 53 = .ok (.new 31, 3) := by decide +kernel
theorem dX6_init_56 : decode cX6_init 56 = .ok (.dup, 1) := by decide +kernel
theorem dX6_init_57 : decode cX6_init 57 = .ok (.invokespecial 33, 3) := by decide +kernel
theorem dX6_init_60 : decode cX6_init 60 = .ok (.putfield 34, 3) := by decide +kernel
theorem dX6_init_63 : decode cX6_init 63 = .ok (.aload_n 0, 1) := by decide +kernel
theorem dX6_init_64 : decode cX6_init 64 = .ok (.new 38, 3) := by decide +kernel
theorem dX6_init_67 : decode cX6_init 67 = .ok (.dup, 1) := by decide +kernel
theorem dX6_init_68 : decode cX6_init 68 = .ok (.invokespecial 40, 3) := by decide +kernel
theorem dX6_init_71 : decode cX6_init 71 = .ok (.putfield 41, 3) := by decide +kernel
theorem dX6_init_74 : decode cX6_init 74 = .ok (.return_, 1) := by decide +kernel
theorem dX6_begin_0 : decode cX6_begin 0 = .ok (.aload_n 0, 1) := by decide +kernel
theorem dX6_begin_1 : decode cX6_begin 1 = .ok (.iconst 0, 1) := by decide +kernel
theorem dX6_begin_2 : decode cX6_begin 2 = .ok (.putfield 45, 3) := by decide +kernel
theorem dX6_begin_5 : decode cX6_begin 5 = .ok (.aload_n 0, 1) := by decide +kernel
theorem dX6_begin_6 : decode cX6_begin 6 = .ok (.aload_n 1, 1) := by decide +kernel
theorem dX6_begin_7 : decode cX6_begin 7 = .ok (.getfield 49, 3) := by decide +kernel
theorem dX6_begin_10 : decode cX6_begin 10 = .ok (.putfield 54, 3) := by decide +kernel
theorem dX6_begin_13 : decode cX6_begin 13 = .ok (.iconst 0, 1) := by decide +kernel
theorem dX6_begin_14 : decode cX6_begin 14 = .ok (.istore_n 2, 1) := by decide +kernel
theorem dX6_begin_15 : decode cX6_begin 15 = .ok (.iload_n 2, 1) := by decide +kernel
theorem dX6_begin_16 : decode cX6_begin 16 = .ok (.bipush 8, 2) := by decide +kernel
theorem dX6_begin_18 : decode cX6_begin 18 = .ok (.if_icmp .ge 40, 3) := by decide +kernel
theorem dX6_begin_21 : decode cX6_begin 21 = .ok (.aload_n 0, 1) := by decide +kernel
theorem dX6_begin_22 : decode cX6_begin 22 = .ok (.getfield 9, 3) := by decide +kernel
theorem dX6_begin_25 : decode cX6_begin 25 = .ok (.iload_n 2, 1) := by decide +kernel
theorem dX6_begin_26 : decode cX6_begin 26 = .ok (.iload_n 2, 1) := by decide +kernel
theorem dX6_begin_27 : decode cX6_begin 27 = .ok (.aload_n 1, 1) := by decide +kernel
theorem dX6_begin_28 : decode cX6_begin 28 = .ok (.getfield 57, 3) := by decide +kernel
theorem dX6_begin_31 : decode cX6_begin 31 = .ok (.if_icmp .ge 12, 3) := by decide +kernel
theorem dX6_begin_34 : decode cX6_begin 34 = .ok (.aload_n 1, 1) := by decide +kernel
theorem dX6_begin_35 : decode cX6_begin 35 = .ok (.getfield 60, 3) := by decide +kernel
theorem dX6_begin_38 : decode cX6_begin 38 = .ok (.iload_n 2, 1) := by decide +kernel
theorem dX6_begin_39 : decode cX6_begin 39 = .ok (.iaload, 1) := by decide +kernel
theorem dX6_begin_40 : decode cX6_begin 40 = .ok (.goto 4, 3) := by decide +kernel
theorem dX6_begin_43 : decode cX6_begin 43 = .ok (.iconst (-1), 1) := by decide +kernel
theorem dX6_begin_44 : decode cX6_begin 44 = .ok (.iastore, 1) := by decide +kernel
theorem dX6_begin_45 : decode cX6_begin 45 = .ok (.aload_n 0, 1) := by decide +kernel
theorem dX6_begin_46 : decode cX6_begin 46 = .ok (.getfield 15, 3) := by decide +kernel
theorem dX6_begin_49 : decode cX6_begin 49 = .ok (.iload_n 2, 1) := by decide +kernel
theorem dX6_begin_50 : decode cX6_begin 50 = .ok (.iconst (-1), 1) := by decide +kernel
theorem dX6_begin_51 : decode cX6_begin 51 = .ok (.iastore, 1) := by decide +kernel
theorem dX6_begin_52 : decode cX6_begin 52 = .ok (.iinc 2 1, 3) := by decide +kernel
theorem dX6_begin_55 : decode cX6_begin 55 = .ok (.goto (-40), 3) := by decide +kernel
theorem dX6_begin_58 : decode cX6_begin 58 = .ok (.iconst 0, 1) := by decide +kernel
theorem dX6_begin_59 : decode cX6_begin 59 = .ok (.istore_n 2, 1) := by decide +kernel
theorem dX6_begin_60 : decode cX6_begin 60 = .ok (.iload_n 2, 1) := by decide +kernel
theorem dX6_begin_61 : decode cX6_begin 61 = .ok (.bipush 12, 2) := by decide +kernel
theorem dX6_begin_63 : decode cX6_begin 63 = .ok (.if_icmp .ge 37, 3) := by decide +kernel
theorem dX6_begin_66 : decode cX6_begin 66 = .ok (.aload_n 0, 1) := by decide +kernel
theorem dX6_begin_67 : decode cX6_begin 67 = .ok (.getfield 18, 3) := by decide +kernel
theorem dX6_begin_70 : decode cX6_begin 70 = .ok (.iload_n 2, 1) := by decide +kernel
theorem dX6_begin_71 : decode cX6_begin 71 = .ok (.iconst (-1), 1) := by decide +kernel
theorem dX6_begin_72 : decode cX6_begin 72 = .ok (.iastore, 1) := by decide +kernel
theorem dX6_begin_73 : decode cX6_begin 73 = .ok (.aload_n 0, 1) := by decide +kernel
theorem dX6_begin_74 : decode cX6_begin 74 = .ok (.getfield 21, 3) := by decide +kernel
theorem dX6_begin_77 : decode cX6_begin 77 = .ok (.iload_n 2, 1) := by decide +kernel
theorem dX6_begin_78 : decode cX6_begin 78 = .ok (.iconst 0, 1) := by decide +kernel
theorem dX6_begin_79 : decode cX6_begin 79 = .ok (.iastore, 1) := by decide +kernel
theorem dX6_begin_80 : decode cX6_begin 80 = .ok (.aload_n 0, 1) := by decide +kernel
theorem dX6_begin_81 : decode cX6_begin 81 = .ok (.getfield 24, 3) := by decide +kernel
theorem dX6_begin_84 : decode cX6_begin 84 = .ok (.iload_n 2, 1) := by decide +kernel
theorem dX6_begin_85 : decode cX6_begin 85 = .ok (.iconst 0, 1) := by decide +kernel
theorem dX6_begin_86 : decode cX6_begin 86 = .ok (.iastore, 1) := by decide +kernel
theorem dX6_begin_87 : decode cX6_begin 87 = .ok (.aload_n 0, 1) := by decide +kernel
theorem dX6_begin_88 : decode cX6_begin 88 = .ok (.getfield 27, 3) := by decide +kernel
theorem dX6_begin_91 : decode cX6_begin 91 = .ok (.iload_n 2, 1) := by decide +kernel
theorem dX6_begin_92 : decode cX6_begin 92 = .ok (.lconst 0, 1) := by decide +kernel
theorem dX6_begin_93 : decode cX6_begin 93 = .ok (.lastore, 1) := by decide +kernel
theorem dX6_begin_94 : decode cX6_begin 94 = .ok (.iinc 2 1, 3) := by decide +kernel
theorem dX6_begin_97 : decode cX6_begin 97 = .ok (.goto (-37), 3) := by decide +kernel
theorem dX6_begin_100 : decode cX6_begin 100 = .ok (.aload_n 0, 1) := by decide +kernel
theorem dX6_begin_101 : decode cX6_begin 101 = .ok (.getfield 34, 3) := by decide +kernel
theorem dX6_begin_104 : decode cX6_begin 104 = .ok (.invokevirtual 63, 3) := by decide +kernel
theorem dX6_begin_107 : decode cX6_begin 107 = .ok (.aload_n 0, 1) := by decide +kernel
theorem dX6_begin_108 : decode cX6_begin 108 = .ok (.getfield 41, 3) := by decide +kernel
theorem dX6_begin_111 : decode cX6_begin 111 = .ok (.invokevirtual 66, 3) := by decide +kernel
theorem dX6_begin_114 : decode cX6_begin 114 = .ok (.return_, 1) := by decide +kernel
theorem dX6_copyFrom_0 : decode cX6_copyFrom 0 = .ok (.aload_n 0, 1) := by decide +kernel
theorem dX6_copyFrom_1 : decode cX6_copyFrom 1 = .ok (.aload_n 1, 1) := by decide +kernel
theorem dX6_copyFrom_2 : decode cX6_copyFrom 2 = .ok (.getfield 45, 3) := by decide +kernel
theorem dX6_copyFrom_5 : decode cX6_copyFrom 5 = .ok (.putfield 45, 3) := by decide +kernel
theorem dX6_copyFrom_8 : decode cX6_copyFrom 8 = .ok (.aload_n 0, 1) := by decide +kernel
theorem dX6_copyFrom_9 : decode cX6_copyFrom 9 = .ok (.aload_n 1, 1) := by decide +kernel
theorem dX6_copyFrom_10 : decode cX6_copyFrom 10 = .ok (.getfield 54, 3) := by decide +kernel
theorem dX6_copyFrom_13 : decode cX6_copyFrom 13 = .ok (.putfield 54, 3) := by decide +kernel
theorem dX6_copyFrom_16 : decode cX6_copyFrom 16 = .ok (.aload_n 1, 1) := by decide +kernel
theorem dX6_copyFrom_17 : decode cX6_copyFrom 17 = .ok (.getfield 9, 3) := by decide +kernel
theorem dX6_copyFrom_20 : decode cX6_copyFrom 20 = .ok (.iconst 0, 1) := by decide +kernel
theorem dX6_copyFrom_21 : decode cX6_copyFrom 21 = .ok (.aload_n 0, 1) := by decide +kernel
theorem dX6_copyFrom_22 : decode cX6_copyFrom 22 = .ok (.getfield 9, 3) := by decide +kernel
theorem dX6_copyFrom_25 : decode cX6_copyFrom 25 = .ok (.iconst 0, 1) := by decide +kernel
theorem dX6_copyFrom_26 : decode cX6_copyFrom 26 = .ok (.bipush 8, 2) := by decide +kernel
theorem dX6_copyFrom_28 : decode cX6_copyFrom 28 = .ok (.invokestatic 67, 3) := by decide +kernel
theorem dX6_copyFrom_31 : decode cX6_copyFrom 31 = .ok (.aload_n 1, 1) := by decide +kernel
theorem dX6_copyFrom_32 : decode cX6_copyFrom 32 = .ok (.getfield 15, 3) := by decide +kernel
theorem dX6_copyFrom_35 : decode cX6_copyFrom 35 = .ok (.iconst 0, 1) := by decide +kernel
theorem dX6_copyFrom_36 : decode cX6_copyFrom 36 = .ok (.aload_n 0, 1) := by decide +kernel
theorem dX6_copyFrom_37 : decode cX6_copyFrom 37 = .ok (.getfield 15, 3) := by decide +kernel
theorem dX6_copyFrom_40 : decode cX6_copyFrom 40 = .ok (.iconst 0, 1) := by decide +kernel
theorem dX6_copyFrom_41 : decode cX6_copyFrom 41 = .ok (.bipush 8, 2) := by decide +kernel
theorem dX6_copyFrom_43 : decode cX6_copyFrom 43 = .ok (.invokestatic 67, 3) := by decide +kernel
theorem dX6_copyFrom_46 : decode cX6_copyFrom 46 = .ok (.aload_n 1, 1) := by decide +kernel
theorem dX6_copyFrom_47 : decode cX6_copyFrom 47 = .ok (.getfield 18, 3) := by decide +kernel
theorem dX6_copyFrom_50 : decode cX6_copyFrom 50 = .ok (.iconst 0, 1) := by decide +kernel
theorem dX6_copyFrom_51 : decode cX6_copyFrom 51 = .ok (.aload_n 0, 1) := by decide +kernel
theorem dX6_copyFrom_52 : decode cX6_copyFrom 52 = .ok (.getfield 18, 3) := by decide +kernel
theorem dX6_copyFrom_55 : decode cX6_copyFrom 55 = .ok (.iconst 0, 1) := by decide +kernel
theorem dX6_copyFrom_56 : decode cX6_copyFrom 56 = .ok (.bipush 12, 2) := by decide +kernel
theorem dX6_copyFrom_58 : decode cX6_copyFrom 58 = .ok (.invokestatic 67, 3) := by decide +kernel
theorem dX6_copyFrom_61 : decode cX6_copyFrom 61 = .ok (.aload_n 1, 1) := by decide +kernel
theorem dX6_copyFrom_62 : decode cX6_copyFrom 62 = .ok (.getfield 21, 3) := by decide +kernel
theorem dX6_copyFrom_65 : decode cX6_copyFrom 65 = .ok (.iconst 0, 1) := by decide +kernel
theorem dX6_copyFrom_66 : decode cX6_copyFrom 66 = .ok (.aload_n 0, 1) := by decide +kernel
theorem dX6_copyFrom_67 : decode cX6_copyFrom 67 = .ok (.getfield 21, 3) := by decide +kernel
theorem dX6_copyFrom_70 : decode cX6_copyFrom 70 = .ok (.iconst 0, 1) := by decide +kernel
theorem dX6_copyFrom_71 : decode cX6_copyFrom 71 = .ok (.bipush 12, 2) := by decide +kernel
theorem dX6_copyFrom_73 : decode cX6_copyFrom 73 = .ok (.invokestatic 67, 3) := by decide +kernel
theorem dX6_copyFrom_76 : decode cX6_copyFrom 76 = .ok (.aload_n 1, 1) := by decide +kernel
theorem dX6_copyFrom_77 : decode cX6_copyFrom 77 = .ok (.getfield 24, 3) := by decide +kernel
theorem dX6_copyFrom_80 : decode cX6_copyFrom 80 = .ok (.iconst 0, 1) := by decide +kernel
theorem dX6_copyFrom_81 : decode cX6_copyFrom 81 = .ok (.aload_n 0, 1) := by decide +kernel
theorem dX6_copyFrom_82 : decode cX6_copyFrom 82 = .ok (.getfield 24, 3) := by decide +kernel
theorem dX6_copyFrom_85 : decode cX6_copyFrom 85 = .ok (.iconst 0, 1) := by decide +kernel
theorem dX6_copyFrom_86 : decode cX6_copyFrom 86 = .ok (.bipush 12, 2) := by decide +kernel
theorem dX6_copyFrom_88 : decode cX6_copyFrom 88 = .ok (.invokestatic 67, 3) := by decide +kernel
theorem dX6_copyFrom_91 : decode cX6_copyFrom 91 = .ok (.aload_n 1, 1) := by decide +kernel
theorem dX6_copyFrom_92 : decode cX6_copyFrom 92 = .ok (.getfield 27, 3) := by decide +kernel
theorem dX6_copyFrom_95 : decode cX6_copyFrom 95 = .ok (.iconst 0, 1) := by decide +kernel
theorem dX6_copyFrom_96 : decode cX6_copyFrom 96 = .ok (.aload_n 0, 1) := by decide +kernel
theorem dX6_copyFrom_97 : decode cX6_copyFrom 97 = .ok (.getfield 27, 3) := by decide +kernel
theorem dX6_copyFrom_100 : decode cX6_copyFrom 100 = .ok (.iconst 0, 1) := by decide +kernel
theorem dX6_copyFrom_101 : decode cX6_copyFrom 101 = .ok (.bipush 12, 2) := by decide +kernel
theorem dX6_copyFrom_103 : decode cX6_copyFrom 103 = .ok (.invokestatic 67, 3) := by decide +kernel
theorem dX6_copyFrom_106 : decode cX6_copyFrom 106 = .ok (.aload_n 0, 1) := by decide +kernel
theorem dX6_copyFrom_107 : decode cX6_copyFrom 107 = .ok (.getfield 34, 3) := by decide +kernel
theorem dX6_copyFrom_110 : decode cX6_copyFrom 110 = .ok (.aload_n 1, 1) := by decide +kernel
theorem dX6_copyFrom_111 : decode cX6_copyFrom 111 = .ok (.getfield 34, 3) := by decide +kernel
theorem dX6_copyFrom_114 : decode cX6_copyFrom 114 = .ok (.invokevirtual 73, 3) := by decide +kernel
theorem dX6_copyFrom_117 : decode cX6_copyFrom 117 = .ok (.aload_n 0, 1) := by decide +kernel
theorem dX6_copyFrom_118 : decode cX6_copyFrom 118 = .ok (.getfield 41, 3) := by decide +kernel
theorem dX6_copyFrom_121 : decode cX6_copyFrom 121 = .ok (.aload_n 1, 1) := by decide +kernel
theorem dX6_copyFrom_122 : decode cX6_copyFrom 122 = .ok (.getfield 41, 3) := by decide +kernel
theorem dX6_copyFrom_125 : decode cX6_copyFrom 125 = .ok (.invokevirtual 77, 3) := by decide +kernel
theorem dX6_copyFrom_128 : decode cX6_copyFrom 128 = .ok (.return_, 1) := by decide +kernel
theorem dX7_init_0 : decode cX7_init 0 = .ok (.aload_n 0, 1) := by decide +kernel
theorem dX7_init_1 : decode cX7_init 1 = .ok (.invokespecial 1, 3) := by decide +kernel
theorem dX7_init_4 : decode cX7_init 4 = .ok (.aload_n 0, 1) := by decide +kernel
theorem dX7_init_5 : decode cX7_init 5 = .ok (.new 7, 3) := by decide +kernel
theorem dX7_init_8 : decode cX7_init 8 = .ok (.dup, 1) := by decide +kernel
theorem dX7_init_9 : decode cX7_init 9 = .ok (.invokespecial 9, 3) := by decide +kernel
theorem dX7_init_12 : decode cX7_init 12 = .ok (.putfield 10, 3) := by decide +kernel
theorem dX7_init_15 : decode cX7_init 15 = .ok (.aload_n 0, 1) := by decide +kernel
theorem dX7_init_16 : decode cX7_init 16 = .ok (.new 16, 3) := by decide +kernel
theorem dX7_init_19 : decode cX7_init 19 = .ok (.dup, 1) := by decide +kernel
theorem dX7_init_20 : decode cX7_init 20 = .ok (.invokespecial 18, 3) := by decide +kernel
theorem dX7_init_23 : decode cX7_init 23 = .ok (.putfield 19, 3) := by decide +kernel
theorem dX7_init_26 : decode cX7_init 26 = .ok (.aload_n 0, 1) := by decide +kernel
theorem dX7_init_27 : decode cX7_init 27 = .ok (.new 23, 3) := by decide +kernel
theorem dX7_init_30 : decode cX7_init 30 = .ok (.dup, 1) := by decide +kernel
theorem dX7_init_31 : decode cX7_init 31 = .ok (.invokespecial 25, 3) := by decide +kernel
theorem dX7_init_34 : decode cX7_init 34 = .ok (.putfield 26, 3) := by decide +kernel
theorem dX7_init_37 : decode cX7_init 37 = .ok (.aload_n 0, 1) := by decide +kernel
theorem dX7_init_38 : decode cX7_init 38 = .ok (.iconst 2, 1) := by decide +kernel
theorem dX7_init_39 : decode cX7_init 39 = .ok (.anewarray 30, 3) := by decide +kernel
theorem dX7_init_42 : decode cX7_init 42 = .ok (.putfield 32, 3) := by decide +kernel
theorem dX7_init_45 : decode cX7_init 45 = .ok (.aload_n 0, 1) := by decide +kernel
theorem dX7_init_46 : decode cX7_init 46 = .ok (.iconst 2, 1) := by decide +kernel
theorem dX7_init_47 : decode cX7_init 47 = .ok (.newarray .boolean, 2) := by decide +kernel
theorem dX7_init_49 : decode cX7_init 49 = .ok (.putfield 36, 3) := by decide +kernel
theorem dX7_init_52 : decode cX7_init 52 = .ok (.iconst 0, 1) := by decide +kernel
theorem dX7_init_53 : decode cX7_init 53 = .ok (.istore_n 1, 1) := by decide +kernel
theorem dX7_init_54 : decode cX7_init 54 = .ok (.iload_n 1, 1) := by decide +kernel
theorem dX7_init_55 : decode cX7_init 55 = .ok (.iconst 2, 1) := by decide +kernel
theorem dX7_init_56 : decode cX7_init 56 = .ok (.if_icmp .ge 22, 3) := by decide +kernel
theorem dX7_init_59 : decode cX7_init 59 = .ok (.aload_n 0, 1) := by decide +kernel
theorem dX7_init_60 : decode cX7_init 60 = .ok (.getfield 32, 3) := by decide +kernel
theorem dX7_init_63 : decode cX7_init 63 = .ok (.iload_n 1, 1) := by decide +kernel
theorem dX7_init_64 : decode cX7_init 64 = .ok (.new 30, 3) := by decide +kernel
theorem dX7_init_67 : decode cX7_init 67 = .ok (.dup, 1) := by decide +kernel
theorem dX7_init_68 : decode cX7_init 68 = .ok (.invokespecial 40, 3) := by decide +kernel
theorem dX7_init_71 : decode cX7_init 71 = .ok (.aastore, 1) := by decide +kernel
theorem dX7_init_72 : decode cX7_init 72 = .ok (.iinc 1 1, 3) := by decide +kernel
theorem dX7_init_75 : decode cX7_init 75 = .ok (.goto (-21), 3) := by decide +kernel
theorem dX7_init_78 : decode cX7_init 78 = .ok (.return_, 1) := by decide +kernel
theorem dX7_append_0 : decode cX7_append 0 = .ok (.aload_n 0, 1) := by decide +kernel
theorem dX7_append_1 : decode cX7_append 1 = .ok (.getfield 10, 3) := by decide +kernel
theorem dX7_append_4 : decode cX7_append 4 = .ok (.bipush 20, 2) := by decide +kernel
theorem dX7_append_6 : decode cX7_append 6 = .ok (.invokevirtual 41, 3) := by decide +kernel
theorem dX7_append_9 : decode cX7_append 9 = .ok (.ifCond .ne 5, 3) := by decide +kernel
theorem dX7_append_12 : decode cX7_append 12 = .ok (.iconst (-1), 1) := by decide +kernel
theorem dX7_append_13 : decode cX7_append 13 = .ok (.ireturn, 1) := by decide +kernel
theorem dX7_append_14 : decode cX7_append 14 = .ok (.aload_n 0, 1) := by decide +kernel
theorem dX7_append_15 : decode cX7_append 15 = .ok (.getfield 10, 3) := by decide +kernel
theorem dX7_append_18 : decode cX7_append 18 = .ok (.iload_n 1, 1) := by decide +kernel
theorem dX7_append_19 : decode cX7_append 19 = .ok (.invokevirtual 45, 3) := by decide +kernel
theorem dX7_append_22 : decode cX7_append 22 = .ok (.aload_n 0, 1) := by decide +kernel
theorem dX7_append_23 : decode cX7_append 23 = .ok (.getfield 10, 3) := by decide +kernel
theorem dX7_append_26 : decode cX7_append 26 = .ok (.iload_n 2, 1) := by decide +kernel
theorem dX7_append_27 : decode cX7_append 27 = .ok (.invokevirtual 45, 3) := by decide +kernel
theorem dX7_append_30 : decode cX7_append 30 = .ok (.aload_n 0, 1) := by decide +kernel
theorem dX7_append_31 : decode cX7_append 31 = .ok (.getfield 10, 3) := by decide +kernel
theorem dX7_append_34 : decode cX7_append 34 = .ok (.iload_n 3, 1) := by decide +kernel
theorem dX7_append_35 : decode cX7_append 35 = .ok (.invokevirtual 45, 3) := by decide +kernel
theorem dX7_append_38 : decode cX7_append 38 = .ok (.aload_n 0, 1) := by decide +kernel
theorem dX7_append_39 : decode cX7_append 39 = .ok (.getfield 10, 3) := by decide +kernel
theorem dX7_append_42 : decode cX7_append 42 = .ok (.iload 4, 2) := by decide +kernel
theorem dX7_append_44 : decode cX7_append 44 = .ok (.invokevirtual 45, 3) := by decide +kernel
theorem dX7_append_47 : decode cX7_append 47 = .ok (.aload_n 0, 1) := by decide +kernel
theorem dX7_append_48 : decode cX7_append 48 = .ok (.getfield 10, 3) := by decide +kernel
theorem dX7_append_51 : decode cX7_append 51 = .ok (.iload 5, 2) := by decide +kernel
theorem dX7_append_53 : decode cX7_append 53 = .ok (.invokevirtual 45, 3) := by decide +kernel
theorem dX7_append_56 : decode cX7_append 56 = .ok (.aload_n 0, 1) := by decide +kernel
theorem dX7_append_57 : decode cX7_append 57 = .ok (.getfield 10, 3) := by decide +kernel
theorem dX7_append_60 : decode cX7_append 60 = .ok (.getfield 49, 3) := by decide +kernel
theorem dX7_append_63 : decode cX7_append 63 = .ok (.ireturn, 1) := by decide +kernel
theorem dX7_parse_0 : decode cX7_parse 0 = .ok (.iload_n 1, 1) := by decide +kernel
theorem dX7_parse_1 : decode cX7_parse 1 = .ok (.ifCond .lt 14, 3) := by decide +kernel
theorem dX7_parse_4 : decode cX7_parse 4 = .ok (.iload_n 1, 1) := by decide +kernel
theorem dX7_parse_5 : decode cX7_parse 5 = .ok (.aload_n 0, 1) := by decide +kernel
theorem dX7_parse_6 : decode cX7_parse 6 = .ok (.getfield 10, 3) := by decide +kernel
theorem dX7_parse_9 : decode cX7_parse 9 = .ok (.getfield 49, 3) := by decide +kernel
theorem dX7_parse_12 : decode cX7_parse 12 = .ok (.if_icmp .le 13, 3) := by decide +kernel
theorem dX7_parse_15 : decode cX7_parse 15 = .ok (.new 53, 3) := by decide +kernel
theorem dX7_parse_18 : decode cX7_parse 18 = .ok (.dup, 1) := by decide +kernel
theorem dX7_parse_19 : decode cX7_parse 19 = .ok (.ldc 55, 2) := by decide +kernel
theorem dX7_parse_21 : decode cX7_parse 21 = .ok (.invokespecial 57, 3) := by decide +kernel
theorem dX7_parse_24 : decode cX7_parse 24 = .ok (.athrow, 1) := by decide +kernel
theorem dX7_parse_25 : decode cX7_parse 25 = .ok (.aload_n 0, 1) := by decide +kernel
theorem dX7_parse_26 : decode cX7_parse 26 = .ok (.getfield 10, 3) := by decide +kernel
theorem dX7_parse_29 : decode cX7_parse 29 = .ok (.iload_n 1, 1) := by decide +kernel
theorem dX7_parse_30 : decode cX7_parse 30 = .ok (.invokevirtual 60, 3) := by decide +kernel
theorem dX7_parse_33 : decode cX7_parse 33 = .ok (.istore_n 2, 1) := by decide +kernel
theorem dX7_parse_34 : decode cX7_parse 34 = .ok (.aload_n 0, 1) := by decide +kernel
theorem dX7_parse_35 : decode cX7_parse 35 = .ok (.getfield 10, 3) := by decide +kernel
theorem dX7_parse_38 : decode cX7_parse 38 = .ok (.iconst 0, 1) := by decide +kernel
theorem dX7_parse_39 : decode cX7_parse 39 = .ok (.putfield 49, 3) := by decide +kernel
theorem dX7_parse_42 : decode cX7_parse 42 = .ok (.iload_n 2, 1) := by decide +kernel
theorem dX7_parse_43 : decode cX7_parse 43 = .ok (.ifCond .ne 11, 3) := by decide +kernel
theorem dX7_parse_46 : decode cX7_parse 46 = .ok (.aload_n 0, 1) := by decide +kernel
theorem dX7_parse_47 : decode cX7_parse 47 = .ok (.getfield 10, 3) := by decide +kernel
theorem dX7_parse_50 : decode cX7_parse 50 = .ok (.invokevirtual 63, 3) := by decide +kernel
theorem dX7_parse_53 : decode cX7_parse 53 = .ok (.ireturn, 1) := by decide +kernel
theorem dX7_parse_54 : decode cX7_parse 54 = .ok (.aload_n 0, 1) := by decide +kernel
theorem dX7_parse_55 : decode cX7_parse 55 = .ok (.getfield 19, 3) := by decide +kernel
theorem dX7_parse_58 : decode cX7_parse 58 = .ok (.aload_n 0, 1) := by decide +kernel
theorem dX7_parse_59 : decode cX7_parse 59 = .ok (.getfield 10, 3) := by decide +kernel
theorem dX7_parse_62 : decode cX7_parse 62 = .ok (.aload_n 0, 1) := by decide +kernel
theorem dX7_parse_63 : decode cX7_parse 63 = .ok (.getfield 19, 3) := by decide +kernel
theorem dX7_parse_66 : decode cX7_parse 66 = .ok (.getfield 67, 3) := by decide +kernel
theorem dX7_parse_69 : decode cX7_parse 69 = .ok (.invokevirtual 71, 3) := by decide +kernel
theorem dX7_parse_72 : decode cX7_parse 72 = .ok (.invokevirtual 75, 3) := by decide +kernel
theorem dX7_parse_75 : decode cX7_parse 75 = .ok (.aload_n 0, 1) := by decide +kernel
theorem dX7_parse_76 : decode cX7_parse 76 = .ok (.getfield 26, 3) := by decide +kernel
theorem dX7_parse_79 : decode cX7_parse 79 = .ok (.invokevirtual 79, 3) := by decide +kernel
theorem dX7_parse_82 : decode cX7_parse 82 = .ok (.iconst 0, 1) := by decide +kernel
theorem dX7_parse_83 : decode cX7_parse 83 = .ok (.istore_n 3, 1) := by decide +kernel
theorem dX7_parse_84 : decode cX7_parse 84 = .ok (.iload_n 3, 1) := by decide +kernel
theorem dX7_parse_85 : decode cX7_parse 85 = .ok (.iconst 2, 1) := by decide +kernel
theorem dX7_parse_86 : decode cX7_parse 86 = .ok (.if_icmp .ge 16, 3) := by decide +kernel
theorem dX7_parse_89 : decode cX7_parse 89 = .ok (.aload_n 0, 1) := by decide +kernel
theorem dX7_parse_90 : decode cX7_parse 90 = .ok (.getfield 36, 3) := by decide +kernel
theorem dX7_parse_93 : decode cX7_parse 93 = .ok (.iload_n 3, 1) := by decide +kernel
theorem dX7_parse_94 : decode cX7_parse 94 = .ok (.iconst 0, 1) := by decide +kernel
theorem dX7_parse_95 : decode cX7_parse 95 = .ok (.bastore, 1) := by decide +kernel
theorem dX7_parse_96 : decode cX7_parse 96 = .ok (.iinc 3 1, 3) := by decide +kernel
theorem dX7_parse_99 : decode cX7_parse 99 = .ok (.goto (-15), 3) := by decide +kernel
theorem dX7_parse_102 : decode cX7_parse 102 = .ok (.aload_n 0, 1) := by decide +kernel
theorem dX7_parse_103 : decode cX7_parse 103 = .ok (.getfield 19, 3) := by decide +kernel
theorem dX7_parse_106 : decode cX7_parse 106 = .ok (.getfield 67, 3) := by decide +kernel
theorem dX7_parse_109 : decode cX7_parse 109 = .ok (.getfield 82, 3) := by decide +kernel
theorem dX7_parse_112 : decode cX7_parse 112 = .ok (.ireturn, 1) := by decide +kernel
theorem dX7_size_0 : decode cX7_size 0 = .ok (.iload_n 1, 1) := by decide +kernel
theorem dX7_size_1 : decode cX7_size 1 = .ok (.tableswitch 159 0 9 #[55, 66, 77, 88, 99, 110, 121, 129, 140, 151], 55) := by decide +kernel
theorem dX7_size_56 : decode cX7_size 56 = .ok (.aload_n 0, 1) := by decide +kernel
theorem dX7_size_57 : decode cX7_size 57 = .ok (.getfield 19, 3) := by decide +kernel
theorem dX7_size_60 : decode cX7_size 60 = .ok (.getfield 67, 3) := by decide +kernel
theorem dX7_size_63 : decode cX7_size 63 = .ok (.getfield 87, 3) := by decide +kernel
theorem dX7_size_66 : decode cX7_size 66 = .ok (.ireturn, 1) := by decide +kernel
theorem dX7_size_67 : decode cX7_size 67 = .ok (.aload_n 0, 1) := by decide +kernel
theorem dX7_size_68 : decode cX7_size 68 = .ok (.getfield 19, 3) := by decide +kernel
theorem dX7_size_71 : decode cX7_size 71 = .ok (.getfield 67, 3) := by decide +kernel
theorem dX7_size_74 : decode cX7_size 74 = .ok (.getfield 90, 3) := by decide +kernel
theorem dX7_size_77 : decode cX7_size 77 = .ok (.ireturn, 1) := by decide +kernel
theorem dX7_size_78 : decode cX7_size 78 = .ok (.aload_n 0, 1) := by decide +kernel
theorem dX7_size_79 : decode cX7_size 79 = .ok (.getfield 19, 3) := by decide +kernel
theorem dX7_size_82 : decode cX7_size 82 = .ok (.getfield 67, 3) := by decide +kernel
theorem dX7_size_85 : decode cX7_size 85 = .ok (.getfield 82, 3) := by decide +kernel
theorem dX7_size_88 : decode cX7_size 88 = .ok (.ireturn, 1) := by decide +kernel
theorem dX7_size_89 : decode cX7_size 89 = .ok (.aload_n 0, 1) := by decide +kernel
theorem dX7_size_90 : decode cX7_size 90 = .ok (.getfield 19, 3) := by decide +kernel
theorem dX7_size_93 : decode cX7_size 93 = .ok (.getfield 67, 3) := by decide +kernel
theorem dX7_size_96 : decode cX7_size 96 = .ok (.getfield 93, 3) := by decide +kernel
theorem dX7_size_99 : decode cX7_size 99 = .ok (.ireturn, 1) := by decide +kernel
theorem dX7_size_100 : decode cX7_size 100 = .ok (.aload_n 0, 1) := by decide +kernel
theorem dX7_size_101 : decode cX7_size 101 = .ok (.getfield 19, 3) := by decide +kernel
theorem dX7_size_104 : decode cX7_size 104 = .ok (.getfield 67, 3) := by decide +kernel
theorem dX7_size_107 : decode cX7_size 107 = .ok (.getfield 96, 3) := by decide +kernel
theorem dX7_size_110 : decode cX7_size 110 = .ok (.ireturn, 1) := by decide +kernel
theorem dX7_size_111 : decode cX7_size 111 = .ok (.aload_n 0, 1) := by decide +kernel
theorem dX7_size_112 : decode cX7_size 112 = .ok (.getfield 19, 3) := by decide +kernel
theorem dX7_size_115 : decode cX7_size 115 = .ok (.getfield 99, 3) := by decide +kernel
theorem dX7_size_118 : decode cX7_size 118 = .ok (.getfield 103, 3) := by decide +kernel
theorem dX7_size_121 : decode cX7_size 121 = .ok (.ireturn, 1) := by decide +kernel
theorem dX7_size_122 : decode cX7_size 122 = .ok (.aload_n 0, 1) := by decide +kernel
theorem dX7_size_123 : decode cX7_size 123 = .ok (.getfield 19, 3) := by decide +kernel
theorem dX7_size_126 : decode cX7_size 126 = .ok (.invokevirtual 106, 3) := by decide +kernel
theorem dX7_size_129 : decode cX7_size 129 = .ok (.ireturn, 1) := by decide +kernel
theorem dX7_size_130 : decode cX7_size 130 = .ok (.aload_n 0, 1) := by decide +kernel
theorem dX7_size_131 : decode cX7_size 131 = .ok (.getfield 19, 3) := by decide +kernel
theorem dX7_size_134 : decode cX7_size 134 = .ok (.getfield 99, 3) := by decide +kernel
theorem dX7_size_137 : decode cX7_size 137 = .ok (.getfield 109, 3) := by decide +kernel
theorem dX7_size_140 : decode cX7_size 140 = .ok (.ireturn, 1) := by decide +kernel
theorem dX7_size_141 : decode cX7_size 141 = .ok (.aload_n 0, 1) := by decide +kernel
theorem dX7_size_142 : decode cX7_size 142 = .ok (.getfield 19, 3) := by decide +kernel
theorem dX7_size_145 : decode cX7_size 145 = .ok (.getfield 67, 3) := by decide +kernel
theorem dX7_size_148 : decode cX7_size 148 = .ok (.getfield 112, 3) := by decide +kernel
theorem dX7_size_151 : decode cX7_size 151 = .ok (.ireturn, 1) := by decide +kernel
theorem dX7_size_152 : decode cX7_size 152 = .ok (.aload_n 0, 1) := by decide +kernel
theorem dX7_size_153 : decode cX7_size 153 = .ok (.getfield 26, 3) := by decide +kernel
theorem dX7_size_156 : decode cX7_size 156 = .ok (.getfield 115, 3) := by decide +kernel
theorem dX7_size_159 : decode cX7_size 159 = .ok (.ireturn, 1) := by decide +kernel
theorem dX7_size_160 : decode cX7_size 160 = .ok (.new 53, 3) := by decide +kernel
theorem dX7_size_163 : decode cX7_size 163 = .ok (.dup, 1) := by decide +kernel
theorem dX7_size_164 : decode cX7_size 164 = .ok (.ldc 118, 2) := by decide +kernel
theorem dX7_size_166 : decode cX7_size 166 = .ok (.invokespecial 57, 3) := by decide +kernel
theorem dX7_size_169 : decode cX7_size 169 = .ok (.athrow, 1) := by decide +kernel
theorem dX7_deviceAt_0 : decode cX7_deviceAt 0 = .ok (.aload_n 0, 1) := by decide +kernel
theorem dX7_deviceAt_1 : decode cX7_deviceAt 1 = .ok (.iload_n 1, 1) := by decide +kernel
theorem dX7_deviceAt_2 : decode cX7_deviceAt 2 = .ok (.invokevirtual 120, 3) := by decide +kernel
theorem dX7_deviceAt_5 : decode cX7_deviceAt 5 = .ok (.aload_n 0, 1) := by decide +kernel
theorem dX7_deviceAt_6 : decode cX7_deviceAt 6 = .ok (.getfield 19, 3) := by decide +kernel
theorem dX7_deviceAt_9 : decode cX7_deviceAt 9 = .ok (.iload_n 1, 1) := by decide +kernel
theorem dX7_deviceAt_10 : decode cX7_deviceAt 10 = .ok (.invokevirtual 123, 3) := by decide +kernel
theorem dX7_deviceAt_13 : decode cX7_deviceAt 13 = .ok (.ireturn, 1) := by decide +kernel
theorem dX7_device_0 : decode cX7_device 0 = .ok (.aload_n 0, 1) := by decide +kernel
theorem dX7_device_1 : decode cX7_device 1 = .ok (.iload_n 1, 1) := by decide +kernel
theorem dX7_device_2 : decode cX7_device 2 = .ok (.invokevirtual 127, 3) := by decide +kernel
theorem dX7_device_5 : decode cX7_device 5 = .ok (.iload_n 2, 1) := by decide +kernel
theorem dX7_device_6 : decode cX7_device 6 = .ok (.tableswitch 143 0 7 #[46, 59, 72, 89, 99, 109, 125, 134], 46) := by decide +kernel
theorem dX7_device_52 : decode cX7_device 52 = .ok (.aload_n 0, 1) := by decide +kernel
theorem dX7_device_53 : decode cX7_device 53 = .ok (.getfield 19, 3) := by decide +kernel
theorem dX7_device_56 : decode cX7_device 56 = .ok (.getfield 99, 3) := by decide +kernel
theorem dX7_device_59 : decode cX7_device 59 = .ok (.getfield 130, 3) := by decide +kernel
theorem dX7_device_62 : decode cX7_device 62 = .ok (.iload_n 1, 1) := by decide +kernel
theorem dX7_device_63 : decode cX7_device 63 = .ok (.iaload, 1) := by decide +kernel
theorem dX7_device_64 : decode cX7_device 64 = .ok (.ireturn, 1) := by decide +kernel
theorem dX7_device_65 : decode cX7_device 65 = .ok (.aload_n 0, 1) := by decide +kernel
theorem dX7_device_66 : decode cX7_device 66 = .ok (.getfield 19, 3) := by decide +kernel
theorem dX7_device_69 : decode cX7_device 69 = .ok (.getfield 67, 3) := by decide +kernel
theorem dX7_device_72 : decode cX7_device 72 = .ok (.getfield 134, 3) := by decide +kernel
theorem dX7_device_75 : decode cX7_device 75 = .ok (.iload_n 1, 1) := by decide +kernel
theorem dX7_device_76 : decode cX7_device 76 = .ok (.iaload, 1) := by decide +kernel
theorem dX7_device_77 : decode cX7_device 77 = .ok (.ireturn, 1) := by decide +kernel
theorem dX7_device_78 : decode cX7_device 78 = .ok (.aload_n 0, 1) := by decide +kernel
theorem dX7_device_79 : decode cX7_device 79 = .ok (.getfield 19, 3) := by decide +kernel
theorem dX7_device_82 : decode cX7_device 82 = .ok (.iload_n 1, 1) := by decide +kernel
theorem dX7_device_83 : decode cX7_device 83 = .ok (.invokevirtual 137, 3) := by decide +kernel
theorem dX7_device_86 : decode cX7_device 86 = .ok (.ifCond .eq 7, 3) := by decide +kernel
theorem dX7_device_89 : decode cX7_device 89 = .ok (.iconst 1, 1) := by decide +kernel
theorem dX7_device_90 : decode cX7_device 90 = .ok (.goto 4, 3) := by decide +kernel
theorem dX7_device_93 : decode cX7_device 93 = .ok (.iconst 0, 1) := by decide +kernel
theorem dX7_device_94 : decode cX7_device 94 = .ok (.ireturn, 1) := by decide +kernel
theorem dX7_device_95 : decode cX7_device 95 = .ok (.aload_n 0, 1) := by decide +kernel
theorem dX7_device_96 : decode cX7_device 96 = .ok (.getfield 19, 3) := by decide +kernel
theorem dX7_device_99 : decode cX7_device 99 = .ok (.iload_n 1, 1) := by decide +kernel
theorem dX7_device_100 : decode cX7_device 100 = .ok (.iconst (-1), 1) := by decide +kernel
theorem dX7_device_101 : decode cX7_device 101 = .ok (.invokevirtual 140, 3) := by decide +kernel
theorem dX7_device_104 : decode cX7_device 104 = .ok (.ireturn, 1) := by decide +kernel
theorem dX7_device_105 : decode cX7_device 105 = .ok (.aload_n 0, 1) := by decide +kernel
theorem dX7_device_106 : decode cX7_device 106 = .ok (.getfield 19, 3) := by decide +kernel
theorem dX7_device_109 : decode cX7_device 109 = .ok (.iload_n 1, 1) := by decide +kernel
theorem dX7_device_110 : decode cX7_device 110 = .ok (.iconst (-1), 1) := by decide +kernel
theorem dX7_device_111 : decode cX7_device 111 = .ok (.invokevirtual 144, 3) := by decide +kernel
theorem dX7_device_114 : decode cX7_device 114 = .ok (.ireturn, 1) := by decide +kernel
theorem dX7_device_115 : decode cX7_device 115 = .ok (.aload_n 0, 1) := by decide +kernel
theorem dX7_device_116 : decode cX7_device 116 = .ok (.getfield 19, 3) := by decide +kernel
theorem dX7_device_119 : decode cX7_device 119 = .ok (.getfield 99, 3) := by decide +kernel
theorem dX7_device_122 : decode cX7_device 122 = .ok (.getfield 147, 3) := by decide +kernel
theorem dX7_device_125 : decode cX7_device 125 = .ok (.getfield 151, 3) := by decide +kernel
theorem dX7_device_128 : decode cX7_device 128 = .ok (.iload_n 1, 1) := by decide +kernel
theorem dX7_device_129 : decode cX7_device 129 = .ok (.iaload, 1) := by decide +kernel
theorem dX7_device_130 : decode cX7_device 130 = .ok (.ireturn, 1) := by decide +kernel
theorem dX7_device_131 : decode cX7_device 131 = .ok (.aload_n 0, 1) := by decide +kernel
theorem dX7_device_132 : decode cX7_device 132 = .ok (.getfield 19, 3) := by decide +kernel
theorem dX7_device_135 : decode cX7_device 135 = .ok (.iload_n 1, 1) := by decide +kernel
theorem dX7_device_136 : decode cX7_device 136 = .ok (.invokevirtual 155, 3) := by decide +kernel
theorem dX7_device_139 : decode cX7_device 139 = .ok (.ireturn, 1) := by decide +kernel
theorem dX7_device_140 : decode cX7_device 140 = .ok (.aload_n 0, 1) := by decide +kernel
theorem dX7_device_141 : decode cX7_device 141 = .ok (.getfield 19, 3) := by decide +kernel
theorem dX7_device_144 : decode cX7_device 144 = .ok (.iload_n 1, 1) := by decide +kernel
theorem dX7_device_145 : decode cX7_device 145 = .ok (.invokevirtual 158, 3) := by decide +kernel
theorem dX7_device_148 : decode cX7_device 148 = .ok (.ireturn, 1) := by decide +kernel
theorem dX7_device_149 : decode cX7_device 149 = .ok (.new 53, 3) := by decide +kernel
theorem dX7_device_152 : decode cX7_device 152 = .ok (.dup, 1) := by decide +kernel
theorem dX7_device_153 : decode cX7_device 153 = .ok (.ldc 161, 2) := by decide +kernel
theorem dX7_device_155 : decode cX7_device 155 = .ok (.invokespecial 57, 3) := by decide +kernel
theorem dX7_device_158 : decode cX7_device 158 = .ok (.athrow, 1) := by decide +kernel
theorem dX7_stream_0 : decode cX7_stream 0 = .ok (.aload_n 0, 1) := by decide +kernel
theorem dX7_stream_1 : decode cX7_stream 1 = .ok (.iload_n 1, 1) := by decide +kernel
theorem dX7_stream_2 : decode cX7_stream 2 = .ok (.invokevirtual 163, 3) := by decide +kernel
theorem dX7_stream_5 : decode cX7_stream 5 = .ok (.iload_n 2, 1) := by decide +kernel
theorem dX7_stream_6 : decode cX7_stream 6 = .ok (.tableswitch 129 0 6 #[42, 55, 68, 77, 90, 103, 116], 42) := by decide +kernel
theorem dX7_stream_48 : decode cX7_stream 48 = .ok (.aload_n 0, 1) := by decide +kernel
theorem dX7_stream_49 : decode cX7_stream 49 = .ok (.getfield 19, 3) := by decide +kernel
theorem dX7_stream_52 : decode cX7_stream 52 = .ok (.getfield 99, 3) := by decide +kernel
theorem dX7_stream_55 : decode cX7_stream 55 = .ok (.getfield 166, 3) := by decide +kernel
theorem dX7_stream_58 : decode cX7_stream 58 = .ok (.iload_n 1, 1) := by decide +kernel
theorem dX7_stream_59 : decode cX7_stream 59 = .ok (.iaload, 1) := by decide +kernel
theorem dX7_stream_60 : decode cX7_stream 60 = .ok (.ireturn, 1) := by decide +kernel
theorem dX7_stream_61 : decode cX7_stream 61 = .ok (.aload_n 0, 1) := by decide +kernel
theorem dX7_stream_62 : decode cX7_stream 62 = .ok (.getfield 19, 3) := by decide +kernel
theorem dX7_stream_65 : decode cX7_stream 65 = .ok (.getfield 99, 3) := by decide +kernel
theorem dX7_stream_68 : decode cX7_stream 68 = .ok (.getfield 169, 3) := by decide +kernel
theorem dX7_stream_71 : decode cX7_stream 71 = .ok (.iload_n 1, 1) := by decide +kernel
theorem dX7_stream_72 : decode cX7_stream 72 = .ok (.iaload, 1) := by decide +kernel
theorem dX7_stream_73 : decode cX7_stream 73 = .ok (.ireturn, 1) := by decide +kernel
theorem dX7_stream_74 : decode cX7_stream 74 = .ok (.aload_n 0, 1) := by decide +kernel
theorem dX7_stream_75 : decode cX7_stream 75 = .ok (.getfield 19, 3) := by decide +kernel
theorem dX7_stream_78 : decode cX7_stream 78 = .ok (.iload_n 1, 1) := by decide +kernel
theorem dX7_stream_79 : decode cX7_stream 79 = .ok (.invokevirtual 172, 3) := by decide +kernel
theorem dX7_stream_82 : decode cX7_stream 82 = .ok (.ireturn, 1) := by decide +kernel
theorem dX7_stream_83 : decode cX7_stream 83 = .ok (.aload_n 0, 1) := by decide +kernel
theorem dX7_stream_84 : decode cX7_stream 84 = .ok (.getfield 19, 3) := by decide +kernel
theorem dX7_stream_87 : decode cX7_stream 87 = .ok (.getfield 67, 3) := by decide +kernel
theorem dX7_stream_90 : decode cX7_stream 90 = .ok (.getfield 175, 3) := by decide +kernel
theorem dX7_stream_93 : decode cX7_stream 93 = .ok (.iload_n 1, 1) := by decide +kernel
theorem dX7_stream_94 : decode cX7_stream 94 = .ok (.iaload, 1) := by decide +kernel
theorem dX7_stream_95 : decode cX7_stream 95 = .ok (.ireturn, 1) := by decide +kernel
theorem dX7_stream_96 : decode cX7_stream 96 = .ok (.aload_n 0, 1) := by decide +kernel
theorem dX7_stream_97 : decode cX7_stream 97 = .ok (.getfield 19, 3) := by decide +kernel
theorem dX7_stream_100 : decode cX7_stream 100 = .ok (.getfield 67, 3) := by decide +kernel
theorem dX7_stream_103 : decode cX7_stream 103 = .ok (.getfield 178, 3) := by decide +kernel
theorem dX7_stream_106 : decode cX7_stream 106 = .ok (.iload_n 1, 1) := by decide +kernel
theorem dX7_stream_107 : decode cX7_stream 107 = .ok (.iaload, 1) := by decide +kernel
theorem dX7_stream_108 : decode cX7_stream 108 = .ok (.ireturn, 1) := by decide +kernel
theorem dX7_stream_109 : decode cX7_stream 109 = .ok (.aload_n 0, 1) := by decide +kernel
theorem dX7_stream_110 : decode cX7_stream 110 = .ok (.getfield 19, 3) := by decide +kernel
theorem dX7_stream_113 : decode cX7_stream 113 = .ok (.getfield 99, 3) := by decide +kernel
theorem dX7_stream_116 : decode cX7_stream 116 = .ok (.getfield 181, 3) := by decide +kernel
theorem dX7_stream_119 : decode cX7_stream 119 = .ok (.iload_n 1, 1) := by decide +kernel
theorem dX7_stream_120 : decode cX7_stream 120 = .ok (.iaload, 1) := by decide +kernel
theorem dX7_stream_121 : decode cX7_stream 121 = .ok (.ireturn, 1) := by decide +kernel
theorem dX7_stream_122 : decode cX7_stream 122 = .ok (.aload_n 0, 1) := by decide +kernel
theorem dX7_stream_123 : decode cX7_stream 123 = .ok (.getfield 19, 3) := by decide +kernel
theorem dX7_stream_126 : decode cX7_stream 126 = .ok (.getfield 67, 3) := by decide +kernel
theorem dX7_stream_129 : decode cX7_stream 129 = .ok (.getfield 184, 3) := by decide +kernel
theorem dX7_stream_132 : decode cX7_stream 132 = .ok (.iload_n 1, 1) := by decide +kernel
theorem dX7_stream_133 : decode cX7_stream 133 = .ok (.iaload, 1) := by decide +kernel
theorem dX7_stream_134 : decode cX7_stream 134 = .ok (.ireturn, 1) := by decide +kernel
theorem dX7_stream_135 : decode cX7_stream 135 = .ok (.new 53, 3) := by decide +kernel
theorem dX7_stream_138 : decode cX7_stream 138 = .ok (.dup, 1) := by decide +kernel
theorem dX7_stream_139 : decode cX7_stream 139 = .ok (.ldc 187, 2) := by decide +kernel
theorem dX7_stream_141 : decode cX7_stream 141 = .ok (.invokespecial 57, 3) := by decide +kernel
theorem dX7_stream_144 : decode cX7_stream 144 = .ok (.athrow, 1) := by decide +kernel
theorem dX7_packets_0 : decode cX7_packets 0 = .ok (.aload_n 0, 1) := by decide +kernel
theorem dX7_packets_1 : decode cX7_packets 1 = .ok (.iload_n 1, 1) := by decide +kernel
theorem dX7_packets_2 : decode cX7_packets 2 = .ok (.invokevirtual 163, 3) := by decide +kernel
theorem dX7_packets_5 : decode cX7_packets 5 = .ok (.aload_n 0, 1) := by decide +kernel
theorem dX7_packets_6 : decode cX7_packets 6 = .ok (.getfield 19, 3) := by decide +kernel
theorem dX7_packets_9 : decode cX7_packets 9 = .ok (.getfield 99, 3) := by decide +kernel
theorem dX7_packets_12 : decode cX7_packets 12 = .ok (.getfield 189, 3) := by decide +kernel
theorem dX7_packets_15 : decode cX7_packets 15 = .ok (.iload_n 1, 1) := by decide +kernel
theorem dX7_packets_16 : decode cX7_packets 16 = .ok (.laload, 1) := by decide +kernel
theorem dX7_packets_17 : decode cX7_packets 17 = .ok (.lreturn, 1) := by decide +kernel
theorem dX7_error_0 : decode cX7_error 0 = .ok (.aload_n 0, 1) := by decide +kernel
theorem dX7_error_1 : decode cX7_error 1 = .ok (.iload_n 1, 1) := by decide +kernel
theorem dX7_error_2 : decode cX7_error 2 = .ok (.invokevirtual 127, 3) := by decide +kernel
theorem dX7_error_5 : decode cX7_error 5 = .ok (.iload_n 3, 1) := by decide +kernel
theorem dX7_error_6 : decode cX7_error 6 = .ok (.ifCond .lt 8, 3) := by decide +kernel
theorem dX7_error_9 : decode cX7_error 9 = .ok (.iload_n 3, 1) := by decide +kernel
theorem dX7_error_10 : decode cX7_error 10 = .ok (.iconst 1, 1) := by decide +kernel
theorem dX7_error_11 : decode cX7_error 11 = .ok (.if_icmp .le 13, 3) := by decide +kernel
theorem dX7_error_14 : decode cX7_error 14 = .ok (.new 53, 3) := by decide +kernel
theorem dX7_error_17 : decode cX7_error 17 = .ok (.dup, 1) := by decide +kernel
theorem dX7_error_18 : decode cX7_error 18 = .ok (.ldc 193, 2) := by decide +kernel
theorem dX7_error_20 : decode cX7_error 20 = .ok (.invokespecial 57, 3) := by decide +kernel
theorem dX7_error_23 : decode cX7_error 23 = .ok (.athrow, 1) := by decide +kernel
theorem dX7_error_24 : decode cX7_error 24 = .ok (.iload_n 3, 1) := by decide +kernel
theorem dX7_error_25 : decode cX7_error 25 = .ok (.ifCond .ne 21, 3) := by decide +kernel
theorem dX7_error_28 : decode cX7_error 28 = .ok (.aload_n 0, 1) := by decide +kernel
theorem dX7_error_29 : decode cX7_error 29 = .ok (.getfield 19, 3) := by decide +kernel
theorem dX7_error_32 : decode cX7_error 32 = .ok (.getfield 99, 3) := by decide +kernel
theorem dX7_error_35 : decode cX7_error 35 = .ok (.getfield 147, 3) := by decide +kernel
theorem dX7_error_38 : decode cX7_error 38 = .ok (.iload_n 1, 1) := by decide +kernel
theorem dX7_error_39 : decode cX7_error 39 = .ok (.iload_n 2, 1) := by decide +kernel
theorem dX7_error_40 : decode cX7_error 40 = .ok (.invokevirtual 195, 3) := by decide +kernel
theorem dX7_error_43 : decode cX7_error 43 = .ok (.goto 18, 3) := by decide +kernel
theorem dX7_error_46 : decode cX7_error 46 = .ok (.aload_n 0, 1) := by decide +kernel
theorem dX7_error_47 : decode cX7_error 47 = .ok (.getfield 19, 3) := by decide +kernel
theorem dX7_error_50 : decode cX7_error 50 = .ok (.getfield 99, 3) := by decide +kernel
theorem dX7_error_53 : decode cX7_error 53 = .ok (.getfield 147, 3) := by decide +kernel
theorem dX7_error_56 : decode cX7_error 56 = .ok (.iload_n 1, 1) := by decide +kernel
theorem dX7_error_57 : decode cX7_error 57 = .ok (.iload_n 2, 1) := by decide +kernel
theorem dX7_error_58 : decode cX7_error 58 = .ok (.invokevirtual 198, 3) := by decide +kernel
theorem dX7_error_61 : decode cX7_error 61 = .ok (.ireturn, 1) := by decide +kernel
theorem dX7_cause_0 : decode cX7_cause 0 = .ok (.iload_n 2, 1) := by decide +kernel
theorem dX7_cause_1 : decode cX7_cause 1 = .ok (.ifCond .lt 8, 3) := by decide +kernel
theorem dX7_cause_4 : decode cX7_cause 4 = .ok (.iload_n 2, 1) := by decide +kernel
theorem dX7_cause_5 : decode cX7_cause 5 = .ok (.iconst 2, 1) := by decide +kernel
theorem dX7_cause_6 : decode cX7_cause 6 = .ok (.if_icmp .le 13, 3) := by decide +kernel
theorem dX7_cause_9 : decode cX7_cause 9 = .ok (.new 53, 3) := by decide +kernel
theorem dX7_cause_12 : decode cX7_cause 12 = .ok (.dup, 1) := by decide +kernel
theorem dX7_cause_13 : decode cX7_cause 13 = .ok (.ldc 201, 2) := by decide +kernel
theorem dX7_cause_15 : decode cX7_cause 15 = .ok (.invokespecial 57, 3) := by decide +kernel
theorem dX7_cause_18 : decode cX7_cause 18 = .ok (.athrow, 1) := by decide +kernel
theorem dX7_cause_19 : decode cX7_cause 19 = .ok (.aload_n 0, 1) := by decide +kernel
theorem dX7_cause_20 : decode cX7_cause 20 = .ok (.getfield 19, 3) := by decide +kernel
theorem dX7_cause_23 : decode cX7_cause 23 = .ok (.getfield 99, 3) := by decide +kernel
theorem dX7_cause_26 : decode cX7_cause 26 = .ok (.getfield 147, 3) := by decide +kernel
theorem dX7_cause_29 : decode cX7_cause 29 = .ok (.iload_n 1, 1) := by decide +kernel
theorem dX7_cause_30 : decode cX7_cause 30 = .ok (.iload_n 2, 1) := by decide +kernel
theorem dX7_cause_31 : decode cX7_cause 31 = .ok (.invokevirtual 203, 3) := by decide +kernel
theorem dX7_cause_34 : decode cX7_cause 34 = .ok (.ireturn, 1) := by decide +kernel
theorem dX7_scoreWith_0 : decode cX7_scoreWith 0 = .ok (.aload_n 0, 1) := by decide +kernel
theorem dX7_scoreWith_1 : decode cX7_scoreWith 1 = .ok (.iload_n 1, 1) := by decide +kernel
theorem dX7_scoreWith_2 : decode cX7_scoreWith 2 = .ok (.invokevirtual 127, 3) := by decide +kernel
theorem dX7_scoreWith_5 : decode cX7_scoreWith 5 = .ok (.aload_n 0, 1) := by decide +kernel
theorem dX7_scoreWith_6 : decode cX7_scoreWith 6 = .ok (.iload_n 2, 1) := by decide +kernel
theorem dX7_scoreWith_7 : decode cX7_scoreWith 7 = .ok (.invokevirtual 206, 3) := by decide +kernel
theorem dX7_scoreWith_10 : decode cX7_scoreWith 10 = .ok (.aload_n 0, 1) := by decide +kernel
theorem dX7_scoreWith_11 : decode cX7_scoreWith 11 = .ok (.getfield 19, 3) := by decide +kernel
theorem dX7_scoreWith_14 : decode cX7_scoreWith 14 = .ok (.iload_n 1, 1) := by decide +kernel
theorem dX7_scoreWith_15 : decode cX7_scoreWith 15 = .ok (.invokevirtual 209, 3) := by decide +kernel
theorem dX7_scoreWith_18 : decode cX7_scoreWith 18 = .ok (.ifCond .eq 15, 3) := by decide +kernel
theorem dX7_scoreWith_21 : decode cX7_scoreWith 21 = .ok (.aload_n 0, 1) := by decide +kernel
theorem dX7_scoreWith_22 : decode cX7_scoreWith 22 = .ok (.getfield 19, 3) := by decide +kernel
theorem dX7_scoreWith_25 : decode cX7_scoreWith 25 = .ok (.iload_n 1, 1) := by decide +kernel
theorem dX7_scoreWith_26 : decode cX7_scoreWith 26 = .ok (.iload_n 2, 1) := by decide +kernel
theorem dX7_scoreWith_27 : decode cX7_scoreWith 27 = .ok (.invokevirtual 140, 3) := by decide +kernel
theorem dX7_scoreWith_30 : decode cX7_scoreWith 30 = .ok (.goto 4, 3) := by decide +kernel
theorem dX7_scoreWith_33 : decode cX7_scoreWith 33 = .ok (.iconst (-1), 1) := by decide +kernel
theorem dX7_scoreWith_34 : decode cX7_scoreWith 34 = .ok (.ireturn, 1) := by decide +kernel
theorem dX7_feared_0 : decode cX7_feared 0 = .ok (.aload_n 0, 1) := by decide +kernel
theorem dX7_feared_1 : decode cX7_feared 1 = .ok (.iload_n 1, 1) := by decide +kernel
theorem dX7_feared_2 : decode cX7_feared 2 = .ok (.invokevirtual 127, 3) := by decide +kernel
theorem dX7_feared_5 : decode cX7_feared 5 = .ok (.aload_n 0, 1) := by decide +kernel
theorem dX7_feared_6 : decode cX7_feared 6 = .ok (.getfield 19, 3) := by decide +kernel
theorem dX7_feared_9 : decode cX7_feared 9 = .ok (.iload_n 1, 1) := by decide +kernel
theorem dX7_feared_10 : decode cX7_feared 10 = .ok (.invokevirtual 212, 3) := by decide +kernel
theorem dX7_feared_13 : decode cX7_feared 13 = .ok (.ireturn, 1) := by decide +kernel
theorem dX7_framesToClear_0 : decode cX7_framesToClear 0 = .ok (.aload_n 0, 1) := by decide +kernel
theorem dX7_framesToClear_1 : decode cX7_framesToClear 1 = .ok (.iload_n 1, 1) := by decide +kernel
theorem dX7_framesToClear_2 : decode cX7_framesToClear 2 = .ok (.invokevirtual 127, 3) := by decide +kernel
theorem dX7_framesToClear_5 : decode cX7_framesToClear 5 = .ok (.aload_n 0, 1) := by decide +kernel
theorem dX7_framesToClear_6 : decode cX7_framesToClear 6 = .ok (.getfield 19, 3) := by decide +kernel
theorem dX7_framesToClear_9 : decode cX7_framesToClear 9 = .ok (.iload_n 1, 1) := by decide +kernel
theorem dX7_framesToClear_10 : decode cX7_framesToClear 10 = .ok (.invokevirtual 215, 3) := by decide +kernel
theorem dX7_framesToClear_13 : decode cX7_framesToClear 13 = .ok (.ireturn, 1) := by decide +kernel
theorem dX7_atStake_0 : decode cX7_atStake 0 = .ok (.aload_n 0, 1) := by decide +kernel
theorem dX7_atStake_1 : decode cX7_atStake 1 = .ok (.iload_n 1, 1) := by decide +kernel
theorem dX7_atStake_2 : decode cX7_atStake 2 = .ok (.invokevirtual 127, 3) := by decide +kernel
theorem dX7_atStake_5 : decode cX7_atStake 5 = .ok (.aload_n 0, 1) := by decide +kernel
theorem dX7_atStake_6 : decode cX7_atStake 6 = .ok (.getfield 19, 3) := by decide +kernel
theorem dX7_atStake_9 : decode cX7_atStake 9 = .ok (.iload_n 1, 1) := by decide +kernel
theorem dX7_atStake_10 : decode cX7_atStake 10 = .ok (.invokevirtual 218, 3) := by decide +kernel
theorem dX7_atStake_13 : decode cX7_atStake 13 = .ok (.ireturn, 1) := by decide +kernel
theorem dX7_weakest_0 : decode cX7_weakest 0 = .ok (.aload_n 0, 1) := by decide +kernel
theorem dX7_weakest_1 : decode cX7_weakest 1 = .ok (.getfield 19, 3) := by decide +kernel
theorem dX7_weakest_4 : decode cX7_weakest 4 = .ok (.invokevirtual 221, 3) := by decide +kernel
theorem dX7_weakest_7 : decode cX7_weakest 7 = .ok (.ireturn, 1) := by decide +kernel
theorem dX7_whyNotRunning_0 : decode cX7_whyNotRunning 0 = .ok (.aload_n 0, 1) := by decide +kernel
theorem dX7_whyNotRunning_1 : decode cX7_whyNotRunning 1 = .ok (.iload_n 1, 1) := by decide +kernel
theorem dX7_whyNotRunning_2 : decode cX7_whyNotRunning 2 = .ok (.invokevirtual 163, 3) := by decide +kernel
theorem dX7_whyNotRunning_5 : decode cX7_whyNotRunning 5 = .ok (.aload_n 0, 1) := by decide +kernel
theorem dX7_whyNotRunning_6 : decode cX7_whyNotRunning 6 = .ok (.getfield 19, 3) := by decide +kernel
theorem dX7_whyNotRunning_9 : decode cX7_whyNotRunning 9 = .ok (.iload_n 1, 1) := by decide +kernel
theorem dX7_whyNotRunning_10 : decode cX7_whyNotRunning 10 = .ok (.invokevirtual 224, 3) := by decide +kernel
theorem dX7_whyNotRunning_13 : decode cX7_whyNotRunning 13 = .ok (.ireturn, 1) := by decide +kernel
theorem dX7_event_0 : decode cX7_event 0 = .ok (.iload_n 2, 1) := by decide +kernel
theorem dX7_event_1 : decode cX7_event 1 = .ok (.ifCond .lt 8, 3) := by decide +kernel
theorem dX7_event_4 : decode cX7_event 4 = .ok (.iload_n 2, 1) := by decide +kernel
theorem dX7_event_5 : decode cX7_event 5 = .ok (.iconst 2, 1) := by decide +kernel
theorem dX7_event_6 : decode cX7_event 6 = .ok (.if_icmp .le 13, 3) := by decide +kernel
theorem dX7_event_9 : decode cX7_event 9 = .ok (.new 53, 3) := by decide +kernel
theorem dX7_event_12 : decode cX7_event 12 = .ok (.dup, 1) := by decide +kernel
theorem dX7_event_13 : decode cX7_event 13 = .ok (.ldc 227, 2) := by decide +kernel
theorem dX7_event_15 : decode cX7_event 15 = .ok (.invokespecial 57, 3) := by decide +kernel
theorem dX7_event_18 : decode cX7_event 18 = .ok (.athrow, 1) := by decide +kernel
theorem dX7_event_19 : decode cX7_event 19 = .ok (.aload_n 0, 1) := by decide +kernel
theorem dX7_event_20 : decode cX7_event 20 = .ok (.getfield 19, 3) := by decide +kernel
theorem dX7_event_23 : decode cX7_event 23 = .ok (.getfield 99, 3) := by decide +kernel
theorem dX7_event_26 : decode cX7_event 26 = .ok (.getfield 229, 3) := by decide +kernel
theorem dX7_event_29 : decode cX7_event 29 = .ok (.iload_n 1, 1) := by decide +kernel
theorem dX7_event_30 : decode cX7_event 30 = .ok (.iload_n 2, 1) := by decide +kernel
theorem dX7_event_31 : decode cX7_event 31 = .ok (.invokevirtual 233, 3) := by decide +kernel
theorem dX7_event_34 : decode cX7_event 34 = .ok (.ireturn, 1) := by decide +kernel
theorem dX7_account_0 : decode cX7_account 0 = .ok (.iload_n 1, 1) := by decide +kernel
theorem dX7_account_1 : decode cX7_account 1 = .ok (.ifCond .lt 9, 3) := by decide +kernel
theorem dX7_account_4 : decode cX7_account 4 = .ok (.iload_n 1, 1) := by decide +kernel
theorem dX7_account_5 : decode cX7_account 5 = .ok (.bipush 10, 2) := by decide +kernel
theorem dX7_account_7 : decode cX7_account 7 = .ok (.if_icmp .lt 13, 3) := by decide +kernel
theorem dX7_account_10 : decode cX7_account 10 = .ok (.new 53, 3) := by decide +kernel
theorem dX7_account_13 : decode cX7_account 13 = .ok (.dup, 1) := by decide +kernel
theorem dX7_account_14 : decode cX7_account 14 = .ok (.ldc 238, 2) := by decide +kernel
theorem dX7_account_16 : decode cX7_account 16 = .ok (.invokespecial 57, 3) := by decide +kernel
theorem dX7_account_19 : decode cX7_account 19 = .ok (.athrow, 1) := by decide +kernel
theorem dX7_account_20 : decode cX7_account 20 = .ok (.aload_n 0, 1) := by decide +kernel
theorem dX7_account_21 : decode cX7_account 21 = .ok (.getfield 19, 3) := by decide +kernel
theorem dX7_account_24 : decode cX7_account 24 = .ok (.getfield 99, 3) := by decide +kernel
theorem dX7_account_27 : decode cX7_account 27 = .ok (.getfield 229, 3) := by decide +kernel
theorem dX7_account_30 : decode cX7_account 30 = .ok (.getfield 240, 3) := by decide +kernel
theorem dX7_account_33 : decode cX7_account 33 = .ok (.iload_n 1, 1) := by decide +kernel
theorem dX7_account_34 : decode cX7_account 34 = .ok (.iaload, 1) := by decide +kernel
theorem dX7_account_35 : decode cX7_account 35 = .ok (.ireturn, 1) := by decide +kernel
theorem dX7_rightShare_0 : decode cX7_rightShare 0 = .ok (.aload_n 0, 1) := by decide +kernel
theorem dX7_rightShare_1 : decode cX7_rightShare 1 = .ok (.getfield 19, 3) := by decide +kernel
theorem dX7_rightShare_4 : decode cX7_rightShare 4 = .ok (.getfield 99, 3) := by decide +kernel
theorem dX7_rightShare_7 : decode cX7_rightShare 7 = .ok (.getfield 229, 3) := by decide +kernel
theorem dX7_rightShare_10 : decode cX7_rightShare 10 = .ok (.getfield 240, 3) := by decide +kernel
theorem dX7_rightShare_13 : decode cX7_rightShare 13 = .ok (.iconst 2, 1) := by decide +kernel
theorem dX7_rightShare_14 : decode cX7_rightShare 14 = .ok (.iaload, 1) := by decide +kernel
theorem dX7_rightShare_15 : decode cX7_rightShare 15 = .ok (.istore_n 1, 1) := by decide +kernel
theorem dX7_rightShare_16 : decode cX7_rightShare 16 = .ok (.iload_n 1, 1) := by decide +kernel
theorem dX7_rightShare_17 : decode cX7_rightShare 17 = .ok (.aload_n 0, 1) := by decide +kernel
theorem dX7_rightShare_18 : decode cX7_rightShare 18 = .ok (.getfield 19, 3) := by decide +kernel
theorem dX7_rightShare_21 : decode cX7_rightShare 21 = .ok (.getfield 99, 3) := by decide +kernel
theorem dX7_rightShare_24 : decode cX7_rightShare 24 = .ok (.getfield 229, 3) := by decide +kernel
theorem dX7_rightShare_27 : decode cX7_rightShare 27 = .ok (.getfield 240, 3) := by decide +kernel
theorem dX7_rightShare_30 : decode cX7_rightShare 30 = .ok (.iconst 1, 1) := by decide +kernel
theorem dX7_rightShare_31 : decode cX7_rightShare 31 = .ok (.iaload, 1) := by decide +kernel
theorem dX7_rightShare_32 : decode cX7_rightShare 32 = .ok (.iadd, 1) := by decide +kernel
theorem dX7_rightShare_33 : decode cX7_rightShare 33 = .ok (.istore_n 2, 1) := by decide +kernel
theorem dX7_rightShare_34 : decode cX7_rightShare 34 = .ok (.iload_n 2, 1) := by decide +kernel
theorem dX7_rightShare_35 : decode cX7_rightShare 35 = .ok (.ifCond .le 11, 3) := by decide +kernel
theorem dX7_rightShare_38 : decode cX7_rightShare 38 = .ok (.iload_n 1, 1) := by decide +kernel
theorem dX7_rightShare_39 : decode cX7_rightShare 39 = .ok (.i2d, 1) := by decide +kernel
theorem dX7_rightShare_40 : decode cX7_rightShare 40 = .ok (.iload_n 2, 1) := by decide +kernel
theorem dX7_rightShare_41 : decode cX7_rightShare 41 = .ok (.i2d, 1) := by decide +kernel
theorem dX7_rightShare_42 : decode cX7_rightShare 42 = .ok (.ddiv, 1) := by decide +kernel
theorem dX7_rightShare_43 : decode cX7_rightShare 43 = .ok (.goto 4, 3) := by decide +kernel
theorem dX7_rightShare_46 : decode cX7_rightShare 46 = .ok (.dconst 0, 1) := by decide +kernel
theorem dX7_rightShare_47 : decode cX7_rightShare 47 = .ok (.dreturn, 1) := by decide +kernel
theorem dX7_frames_0 : decode cX7_frames 0 = .ok (.iload_n 1, 1) := by decide +kernel
theorem dX7_frames_1 : decode cX7_frames 1 = .ok (.iconst 1, 1) := by decide +kernel
theorem dX7_frames_2 : decode cX7_frames 2 = .ok (.if_icmp .lt 10, 3) := by decide +kernel
theorem dX7_frames_5 : decode cX7_frames 5 = .ok (.iload_n 1, 1) := by decide +kernel
theorem dX7_frames_6 : decode cX7_frames 6 = .ok (.sipush 200, 3) := by decide +kernel
theorem dX7_frames_9 : decode cX7_frames 9 = .ok (.if_icmp .le 13, 3) := by decide +kernel
theorem dX7_frames_12 : decode cX7_frames 12 = .ok (.new 53, 3) := by decide +kernel
theorem dX7_frames_15 : decode cX7_frames 15 = .ok (.dup, 1) := by decide +kernel
theorem dX7_frames_16 : decode cX7_frames 16 = .ok (.ldc 243, 2) := by decide +kernel
theorem dX7_frames_18 : decode cX7_frames 18 = .ok (.invokespecial 57, 3) := by decide +kernel
theorem dX7_frames_21 : decode cX7_frames 21 = .ok (.athrow, 1) := by decide +kernel
theorem dX7_frames_22 : decode cX7_frames 22 = .ok (.aload_n 0, 1) := by decide +kernel
theorem dX7_frames_23 : decode cX7_frames 23 = .ok (.getfield 26, 3) := by decide +kernel
theorem dX7_frames_26 : decode cX7_frames 26 = .ok (.aload_n 0, 1) := by decide +kernel
theorem dX7_frames_27 : decode cX7_frames 27 = .ok (.getfield 19, 3) := by decide +kernel
theorem dX7_frames_30 : decode cX7_frames 30 = .ok (.getfield 99, 3) := by decide +kernel
theorem dX7_frames_33 : decode cX7_frames 33 = .ok (.invokevirtual 245, 3) := by decide +kernel
theorem dX7_frames_36 : decode cX7_frames 36 = .ok (.iconst 0, 1) := by decide +kernel
theorem dX7_frames_37 : decode cX7_frames 37 = .ok (.istore_n 2, 1) := by decide +kernel
theorem dX7_frames_38 : decode cX7_frames 38 = .ok (.iload_n 2, 1) := by decide +kernel
theorem dX7_frames_39 : decode cX7_frames 39 = .ok (.iload_n 1, 1) := by decide +kernel
theorem dX7_frames_40 : decode cX7_frames 40 = .ok (.if_icmp .ge 16, 3) := by decide +kernel
theorem dX7_frames_43 : decode cX7_frames 43 = .ok (.aload_n 0, 1) := by decide +kernel
theorem dX7_frames_44 : decode cX7_frames 44 = .ok (.getfield 19, 3) := by decide +kernel
theorem dX7_frames_47 : decode cX7_frames 47 = .ok (.invokevirtual 249, 3) := by decide +kernel
theorem dX7_frames_50 : decode cX7_frames 50 = .ok (.iinc 2 1, 3) := by decide +kernel
theorem dX7_frames_53 : decode cX7_frames 53 = .ok (.goto (-15), 3) := by decide +kernel
theorem dX7_frames_56 : decode cX7_frames 56 = .ok (.aload_n 0, 1) := by decide +kernel
theorem dX7_frames_57 : decode cX7_frames 57 = .ok (.getfield 19, 3) := by decide +kernel
theorem dX7_frames_60 : decode cX7_frames 60 = .ok (.invokevirtual 106, 3) := by decide +kernel
theorem dX7_frames_63 : decode cX7_frames 63 = .ok (.ireturn, 1) := by decide +kernel
theorem dX7_fail_0 : decode cX7_fail 0 = .ok (.aload_n 0, 1) := by decide +kernel
theorem dX7_fail_1 : decode cX7_fail 1 = .ok (.iload_n 1, 1) := by decide +kernel
theorem dX7_fail_2 : decode cX7_fail 2 = .ok (.invokevirtual 127, 3) := by decide +kernel
theorem dX7_fail_5 : decode cX7_fail 5 = .ok (.aload_n 0, 1) := by decide +kernel
theorem dX7_fail_6 : decode cX7_fail 6 = .ok (.iload_n 2, 1) := by decide +kernel
theorem dX7_fail_7 : decode cX7_fail 7 = .ok (.invokevirtual 206, 3) := by decide +kernel
theorem dX7_fail_10 : decode cX7_fail 10 = .ok (.aload_n 0, 1) := by decide +kernel
theorem dX7_fail_11 : decode cX7_fail 11 = .ok (.iload_n 1, 1) := by decide +kernel
theorem dX7_fail_12 : decode cX7_fail 12 = .ok (.invokevirtual 252, 3) := by decide +kernel
theorem dX7_fail_15 : decode cX7_fail 15 = .ok (.aload_n 0, 1) := by decide +kernel
theorem dX7_fail_16 : decode cX7_fail 16 = .ok (.getfield 26, 3) := by decide +kernel
theorem dX7_fail_19 : decode cX7_fail 19 = .ok (.aload_n 0, 1) := by decide +kernel
theorem dX7_fail_20 : decode cX7_fail 20 = .ok (.getfield 19, 3) := by decide +kernel
theorem dX7_fail_23 : decode cX7_fail 23 = .ok (.getfield 99, 3) := by decide +kernel
theorem dX7_fail_26 : decode cX7_fail 26 = .ok (.invokevirtual 245, 3) := by decide +kernel
theorem dX7_fail_29 : decode cX7_fail 29 = .ok (.aload_n 0, 1) := by decide +kernel
theorem dX7_fail_30 : decode cX7_fail 30 = .ok (.getfield 19, 3) := by decide +kernel
theorem dX7_fail_33 : decode cX7_fail 33 = .ok (.iload_n 1, 1) := by decide +kernel
theorem dX7_fail_34 : decode cX7_fail 34 = .ok (.iload_n 2, 1) := by decide +kernel
theorem dX7_fail_35 : decode cX7_fail 35 = .ok (.invokevirtual 255, 3) := by decide +kernel
theorem dX7_fail_38 : decode cX7_fail 38 = .ok (.aload_n 0, 1) := by decide +kernel
theorem dX7_fail_39 : decode cX7_fail 39 = .ok (.getfield 19, 3) := by decide +kernel
theorem dX7_fail_42 : decode cX7_fail 42 = .ok (.iload_n 1, 1) := by decide +kernel
theorem dX7_fail_43 : decode cX7_fail 43 = .ok (.iconst (-1), 1) := by decide +kernel
theorem dX7_fail_44 : decode cX7_fail 44 = .ok (.invokevirtual 140, 3) := by decide +kernel
theorem dX7_fail_47 : decode cX7_fail 47 = .ok (.ireturn, 1) := by decide +kernel
theorem dX7_warn_0 : decode cX7_warn 0 = .ok (.aload_n 0, 1) := by decide +kernel
theorem dX7_warn_1 : decode cX7_warn 1 = .ok (.iload_n 1, 1) := by decide +kernel
theorem dX7_warn_2 : decode cX7_warn 2 = .ok (.invokevirtual 127, 3) := by decide +kernel
theorem dX7_warn_5 : decode cX7_warn 5 = .ok (.aload_n 0, 1) := by decide +kernel
theorem dX7_warn_6 : decode cX7_warn 6 = .ok (.iload_n 1, 1) := by decide +kernel
theorem dX7_warn_7 : decode cX7_warn 7 = .ok (.invokevirtual 252, 3) := by decide +kernel
theorem dX7_warn_10 : decode cX7_warn 10 = .ok (.aload_n 0, 1) := by decide +kernel
theorem dX7_warn_11 : decode cX7_warn 11 = .ok (.getfield 19, 3) := by decide +kernel
theorem dX7_warn_14 : decode cX7_warn 14 = .ok (.iload_n 1, 1) := by decide +kernel
theorem dX7_warn_15 : decode cX7_warn 15 = .ok (.invokevirtual 137, 3) := by decide +kernel
theorem dX7_warn_18 : decode cX7_warn 18 = .ok (.ifCond .eq 14, 3) := by decide +kernel
theorem dX7_warn_21 : decode cX7_warn 21 = .ok (.new 259, 3) := by decide +kernel
theorem dX7_warn_24 : decode cX7_warn 24 = .ok (.dup, 1) := by decide +kernel
theorem dX7_warn_25 : decode cX7_warn 25 = .ok (.ldc_w 261, 3) := by decide +kernel
theorem dX7_warn_28 : decode cX7_warn 28 = .ok (.invokespecial 263, 3) := by decide +kernel
theorem dX7_warn_31 : decode cX7_warn 31 = .ok (.athrow, 1) := by decide +kernel
theorem dX7_warn_32 : decode cX7_warn 32 = .ok (.aload_n 0, 1) := by decide +kernel
theorem dX7_warn_33 : decode cX7_warn 33 = .ok (.getfield 26, 3) := by decide +kernel
theorem dX7_warn_36 : decode cX7_warn 36 = .ok (.aload_n 0, 1) := by decide +kernel
theorem dX7_warn_37 : decode cX7_warn 37 = .ok (.getfield 19, 3) := by decide +kernel
theorem dX7_warn_40 : decode cX7_warn 40 = .ok (.getfield 99, 3) := by decide +kernel
theorem dX7_warn_43 : decode cX7_warn 43 = .ok (.invokevirtual 245, 3) := by decide +kernel
theorem dX7_warn_46 : decode cX7_warn 46 = .ok (.aload_n 0, 1) := by decide +kernel
theorem dX7_warn_47 : decode cX7_warn 47 = .ok (.getfield 19, 3) := by decide +kernel
theorem dX7_warn_50 : decode cX7_warn 50 = .ok (.iload_n 1, 1) := by decide +kernel
theorem dX7_warn_51 : decode cX7_warn 51 = .ok (.invokevirtual 215, 3) := by decide +kernel
theorem dX7_warn_54 : decode cX7_warn 54 = .ok (.istore_n 2, 1) := by decide +kernel
theorem dX7_warn_55 : decode cX7_warn 55 = .ok (.aload_n 0, 1) := by decide +kernel
theorem dX7_warn_56 : decode cX7_warn 56 = .ok (.getfield 19, 3) := by decide +kernel
theorem dX7_warn_59 : decode cX7_warn 59 = .ok (.iload_n 1, 1) := by decide +kernel
theorem dX7_warn_60 : decode cX7_warn 60 = .ok (.invokevirtual 264, 3) := by decide +kernel
theorem dX7_warn_63 : decode cX7_warn 63 = .ok (.aload_n 0, 1) := by decide +kernel
theorem dX7_warn_64 : decode cX7_warn 64 = .ok (.getfield 19, 3) := by decide +kernel
theorem dX7_warn_67 : decode cX7_warn 67 = .ok (.invokevirtual 267, 3) := by decide +kernel
theorem dX7_warn_70 : decode cX7_warn 70 = .ok (.iload_n 2, 1) := by decide +kernel
theorem dX7_warn_71 : decode cX7_warn 71 = .ok (.ireturn, 1) := by decide +kernel
theorem dX7_callOff_0 : decode cX7_callOff 0 = .ok (.aload_n 0, 1) := by decide +kernel
theorem dX7_callOff_1 : decode cX7_callOff 1 = .ok (.iload_n 1, 1) := by decide +kernel
theorem dX7_callOff_2 : decode cX7_callOff 2 = .ok (.invokevirtual 127, 3) := by decide +kernel
theorem dX7_callOff_5 : decode cX7_callOff 5 = .ok (.aload_n 0, 1) := by decide +kernel
theorem dX7_callOff_6 : decode cX7_callOff 6 = .ok (.getfield 19, 3) := by decide +kernel
theorem dX7_callOff_9 : decode cX7_callOff 9 = .ok (.iload_n 1, 1) := by decide +kernel
theorem dX7_callOff_10 : decode cX7_callOff 10 = .ok (.invokevirtual 137, 3) := by decide +kernel
theorem dX7_callOff_13 : decode cX7_callOff 13 = .ok (.ifCond .ne 14, 3) := by decide +kernel
theorem dX7_callOff_16 : decode cX7_callOff 16 = .ok (.new 259, 3) := by decide +kernel
theorem dX7_callOff_19 : decode cX7_callOff 19 = .ok (.dup, 1) := by decide +kernel
theorem dX7_callOff_20 : decode cX7_callOff 20 = .ok (.ldc_w 270, 3) := by decide +kernel
theorem dX7_callOff_23 : decode cX7_callOff 23 = .ok (.invokespecial 263, 3) := by decide +kernel
theorem dX7_callOff_26 : decode cX7_callOff 26 = .ok (.athrow, 1) := by decide +kernel
theorem dX7_callOff_27 : decode cX7_callOff 27 = .ok (.aload_n 0, 1) := by decide +kernel
theorem dX7_callOff_28 : decode cX7_callOff 28 = .ok (.getfield 26, 3) := by decide +kernel
theorem dX7_callOff_31 : decode cX7_callOff 31 = .ok (.aload_n 0, 1) := by decide +kernel
theorem dX7_callOff_32 : decode cX7_callOff 32 = .ok (.getfield 19, 3) := by decide +kernel
theorem dX7_callOff_35 : decode cX7_callOff 35 = .ok (.getfield 99, 3) := by decide +kernel
theorem dX7_callOff_38 : decode cX7_callOff 38 = .ok (.invokevirtual 245, 3) := by decide +kernel
theorem dX7_callOff_41 : decode cX7_callOff 41 = .ok (.aload_n 0, 1) := by decide +kernel
theorem dX7_callOff_42 : decode cX7_callOff 42 = .ok (.getfield 19, 3) := by decide +kernel
theorem dX7_callOff_45 : decode cX7_callOff 45 = .ok (.iload_n 1, 1) := by decide +kernel
theorem dX7_callOff_46 : decode cX7_callOff 46 = .ok (.invokevirtual 272, 3) := by decide +kernel
theorem dX7_callOff_49 : decode cX7_callOff 49 = .ok (.aload_n 0, 1) := by decide +kernel
theorem dX7_callOff_50 : decode cX7_callOff 50 = .ok (.getfield 19, 3) := by decide +kernel
theorem dX7_callOff_53 : decode cX7_callOff 53 = .ok (.invokevirtual 267, 3) := by decide +kernel
theorem dX7_callOff_56 : decode cX7_callOff 56 = .ok (.aload_n 0, 1) := by decide +kernel
theorem dX7_callOff_57 : decode cX7_callOff 57 = .ok (.getfield 19, 3) := by decide +kernel
theorem dX7_callOff_60 : decode cX7_callOff 60 = .ok (.iload_n 1, 1) := by decide +kernel
theorem dX7_callOff_61 : decode cX7_callOff 61 = .ok (.invokevirtual 155, 3) := by decide +kernel
theorem dX7_callOff_64 : decode cX7_callOff 64 = .ok (.invokestatic 275, 3) := by decide +kernel
theorem dX7_callOff_67 : decode cX7_callOff 67 = .ok (.ireturn, 1) := by decide +kernel
theorem dX7_unplug_0 : decode cX7_unplug 0 = .ok (.aload_n 0, 1) := by decide +kernel
theorem dX7_unplug_1 : decode cX7_unplug 1 = .ok (.iload_n 1, 1) := by decide +kernel
theorem dX7_unplug_2 : decode cX7_unplug 2 = .ok (.invokevirtual 127, 3) := by decide +kernel
theorem dX7_unplug_5 : decode cX7_unplug 5 = .ok (.aload_n 0, 1) := by decide +kernel
theorem dX7_unplug_6 : decode cX7_unplug 6 = .ok (.iload_n 1, 1) := by decide +kernel
theorem dX7_unplug_7 : decode cX7_unplug 7 = .ok (.invokevirtual 252, 3) := by decide +kernel
theorem dX7_unplug_10 : decode cX7_unplug 10 = .ok (.aload_n 0, 1) := by decide +kernel
theorem dX7_unplug_11 : decode cX7_unplug 11 = .ok (.getfield 26, 3) := by decide +kernel
theorem dX7_unplug_14 : decode cX7_unplug 14 = .ok (.aload_n 0, 1) := by decide +kernel
theorem dX7_unplug_15 : decode cX7_unplug 15 = .ok (.getfield 19, 3) := by decide +kernel
theorem dX7_unplug_18 : decode cX7_unplug 18 = .ok (.getfield 99, 3) := by decide +kernel
theorem dX7_unplug_21 : decode cX7_unplug 21 = .ok (.invokevirtual 245, 3) := by decide +kernel
theorem dX7_unplug_24 : decode cX7_unplug 24 = .ok (.aload_n 0, 1) := by decide +kernel
theorem dX7_unplug_25 : decode cX7_unplug 25 = .ok (.getfield 19, 3) := by decide +kernel
theorem dX7_unplug_28 : decode cX7_unplug 28 = .ok (.iload_n 1, 1) := by decide +kernel
theorem dX7_unplug_29 : decode cX7_unplug 29 = .ok (.invokevirtual 280, 3) := by decide +kernel
theorem dX7_unplug_32 : decode cX7_unplug 32 = .ok (.ireturn, 1) := by decide +kernel
theorem dX7_plug_0 : decode cX7_plug 0 = .ok (.aload_n 0, 1) := by decide +kernel
theorem dX7_plug_1 : decode cX7_plug 1 = .ok (.iload_n 1, 1) := by decide +kernel
theorem dX7_plug_2 : decode cX7_plug 2 = .ok (.invokevirtual 127, 3) := by decide +kernel
theorem dX7_plug_5 : decode cX7_plug 5 = .ok (.aload_n 0, 1) := by decide +kernel
theorem dX7_plug_6 : decode cX7_plug 6 = .ok (.iload_n 2, 1) := by decide +kernel
theorem dX7_plug_7 : decode cX7_plug 7 = .ok (.invokevirtual 120, 3) := by decide +kernel
theorem dX7_plug_10 : decode cX7_plug 10 = .ok (.aload_n 0, 1) := by decide +kernel
theorem dX7_plug_11 : decode cX7_plug 11 = .ok (.getfield 19, 3) := by decide +kernel
theorem dX7_plug_14 : decode cX7_plug 14 = .ok (.iload_n 1, 1) := by decide +kernel
theorem dX7_plug_15 : decode cX7_plug 15 = .ok (.invokevirtual 209, 3) := by decide +kernel
theorem dX7_plug_18 : decode cX7_plug 18 = .ok (.ifCond .eq 14, 3) := by decide +kernel
theorem dX7_plug_21 : decode cX7_plug 21 = .ok (.new 259, 3) := by decide +kernel
theorem dX7_plug_24 : decode cX7_plug 24 = .ok (.dup, 1) := by decide +kernel
theorem dX7_plug_25 : decode cX7_plug 25 = .ok (.ldc_w 283, 3) := by decide +kernel
theorem dX7_plug_28 : decode cX7_plug 28 = .ok (.invokespecial 263, 3) := by decide +kernel
theorem dX7_plug_31 : decode cX7_plug 31 = .ok (.athrow, 1) := by decide +kernel
theorem dX7_plug_32 : decode cX7_plug 32 = .ok (.aload_n 0, 1) := by decide +kernel
theorem dX7_plug_33 : decode cX7_plug 33 = .ok (.getfield 19, 3) := by decide +kernel
theorem dX7_plug_36 : decode cX7_plug 36 = .ok (.iload_n 2, 1) := by decide +kernel
theorem dX7_plug_37 : decode cX7_plug 37 = .ok (.invokevirtual 123, 3) := by decide +kernel
theorem dX7_plug_40 : decode cX7_plug 40 = .ok (.iconst (-1), 1) := by decide +kernel
theorem dX7_plug_41 : decode cX7_plug 41 = .ok (.if_icmp .eq 14, 3) := by decide +kernel
theorem dX7_plug_44 : decode cX7_plug 44 = .ok (.new 259, 3) := by decide +kernel
theorem dX7_plug_47 : decode cX7_plug 47 = .ok (.dup, 1) := by decide +kernel
theorem dX7_plug_48 : decode cX7_plug 48 = .ok (.ldc_w 285, 3) := by decide +kernel
theorem dX7_plug_51 : decode cX7_plug 51 = .ok (.invokespecial 263, 3) := by decide +kernel
theorem dX7_plug_54 : decode cX7_plug 54 = .ok (.athrow, 1) := by decide +kernel
theorem dX7_plug_55 : decode cX7_plug 55 = .ok (.aload_n 0, 1) := by decide +kernel
theorem dX7_plug_56 : decode cX7_plug 56 = .ok (.getfield 26, 3) := by decide +kernel
theorem dX7_plug_59 : decode cX7_plug 59 = .ok (.aload_n 0, 1) := by decide +kernel
theorem dX7_plug_60 : decode cX7_plug 60 = .ok (.getfield 19, 3) := by decide +kernel
theorem dX7_plug_63 : decode cX7_plug 63 = .ok (.getfield 99, 3) := by decide +kernel
theorem dX7_plug_66 : decode cX7_plug 66 = .ok (.invokevirtual 245, 3) := by decide +kernel
theorem dX7_plug_69 : decode cX7_plug 69 = .ok (.aload_n 0, 1) := by decide +kernel
theorem dX7_plug_70 : decode cX7_plug 70 = .ok (.getfield 19, 3) := by decide +kernel
theorem dX7_plug_73 : decode cX7_plug 73 = .ok (.iload_n 1, 1) := by decide +kernel
theorem dX7_plug_74 : decode cX7_plug 74 = .ok (.iload_n 2, 1) := by decide +kernel
theorem dX7_plug_75 : decode cX7_plug 75 = .ok (.invokevirtual 287, 3) := by decide +kernel
theorem dX7_plug_78 : decode cX7_plug 78 = .ok (.aload_n 0, 1) := by decide +kernel
theorem dX7_plug_79 : decode cX7_plug 79 = .ok (.getfield 19, 3) := by decide +kernel
theorem dX7_plug_82 : decode cX7_plug 82 = .ok (.iload_n 1, 1) := by decide +kernel
theorem dX7_plug_83 : decode cX7_plug 83 = .ok (.invokevirtual 155, 3) := by decide +kernel
theorem dX7_plug_86 : decode cX7_plug 86 = .ok (.invokestatic 275, 3) := by decide +kernel
theorem dX7_plug_89 : decode cX7_plug 89 = .ok (.ireturn, 1) := by decide +kernel
theorem dX7_setScore_0 : decode cX7_setScore 0 = .ok (.iload_n 1, 1) := by decide +kernel
theorem dX7_setScore_1 : decode cX7_setScore 1 = .ok (.iconst 1, 1) := by decide +kernel
theorem dX7_setScore_2 : decode cX7_setScore 2 = .ok (.if_icmp .lt 10, 3) := by decide +kernel
theorem dX7_setScore_5 : decode cX7_setScore 5 = .ok (.iload_n 1, 1) := by decide +kernel
theorem dX7_setScore_6 : decode cX7_setScore 6 = .ok (.sipush 999, 3) := by decide +kernel
theorem dX7_setScore_9 : decode cX7_setScore 9 = .ok (.if_icmp .le 14, 3) := by decide +kernel
theorem dX7_setScore_12 : decode cX7_setScore 12 = .ok (.new 53, 3) := by decide +kernel
theorem dX7_setScore_15 : decode cX7_setScore 15 = .ok (.dup, 1) := by decide +kernel
theorem dX7_setScore_16 : decode cX7_setScore 16 = .ok (.ldc_w 290, 3) := by decide +kernel
theorem dX7_setScore_19 : decode cX7_setScore 19 = .ok (.invokespecial 57, 3) := by decide +kernel
theorem dX7_setScore_22 : decode cX7_setScore 22 = .ok (.athrow, 1) := by decide +kernel
theorem dX7_setScore_23 : decode cX7_setScore 23 = .ok (.aload_n 0, 1) := by decide +kernel
theorem dX7_setScore_24 : decode cX7_setScore 24 = .ok (.getfield 26, 3) := by decide +kernel
theorem dX7_setScore_27 : decode cX7_setScore 27 = .ok (.aload_n 0, 1) := by decide +kernel
theorem dX7_setScore_28 : decode cX7_setScore 28 = .ok (.getfield 19, 3) := by decide +kernel
theorem dX7_setScore_31 : decode cX7_setScore 31 = .ok (.getfield 99, 3) := by decide +kernel
theorem dX7_setScore_34 : decode cX7_setScore 34 = .ok (.invokevirtual 245, 3) := by decide +kernel
theorem dX7_setScore_37 : decode cX7_setScore 37 = .ok (.aload_n 0, 1) := by decide +kernel
theorem dX7_setScore_38 : decode cX7_setScore 38 = .ok (.getfield 19, 3) := by decide +kernel
theorem dX7_setScore_41 : decode cX7_setScore 41 = .ok (.getfield 99, 3) := by decide +kernel
theorem dX7_setScore_44 : decode cX7_setScore 44 = .ok (.getfield 109, 3) := by decide +kernel
theorem dX7_setScore_47 : decode cX7_setScore 47 = .ok (.istore_n 2, 1) := by decide +kernel
theorem dX7_setScore_48 : decode cX7_setScore 48 = .ok (.aload_n 0, 1) := by decide +kernel
theorem dX7_setScore_49 : decode cX7_setScore 49 = .ok (.getfield 19, 3) := by decide +kernel
theorem dX7_setScore_52 : decode cX7_setScore 52 = .ok (.getfield 99, 3) := by decide +kernel
theorem dX7_setScore_55 : decode cX7_setScore 55 = .ok (.iload_n 1, 1) := by decide +kernel
theorem dX7_setScore_56 : decode cX7_setScore 56 = .ok (.putfield 109, 3) := by decide +kernel
theorem dX7_setScore_59 : decode cX7_setScore 59 = .ok (.iload_n 2, 1) := by decide +kernel
theorem dX7_setScore_60 : decode cX7_setScore 60 = .ok (.ireturn, 1) := by decide +kernel
theorem dX7_undo_0 : decode cX7_undo 0 = .ok (.aload_n 0, 1) := by decide +kernel
theorem dX7_undo_1 : decode cX7_undo 1 = .ok (.getfield 26, 3) := by decide +kernel
theorem dX7_undo_4 : decode cX7_undo 4 = .ok (.aload_n 0, 1) := by decide +kernel
theorem dX7_undo_5 : decode cX7_undo 5 = .ok (.getfield 19, 3) := by decide +kernel
theorem dX7_undo_8 : decode cX7_undo 8 = .ok (.getfield 99, 3) := by decide +kernel
theorem dX7_undo_11 : decode cX7_undo 11 = .ok (.invokevirtual 292, 3) := by decide +kernel
theorem dX7_undo_14 : decode cX7_undo 14 = .ok (.ifCond .eq 13, 3) := by decide +kernel
theorem dX7_undo_17 : decode cX7_undo 17 = .ok (.aload_n 0, 1) := by decide +kernel
theorem dX7_undo_18 : decode cX7_undo 18 = .ok (.getfield 26, 3) := by decide +kernel
theorem dX7_undo_21 : decode cX7_undo 21 = .ok (.getfield 115, 3) := by decide +kernel
theorem dX7_undo_24 : decode cX7_undo 24 = .ok (.goto 4, 3) := by decide +kernel
theorem dX7_undo_27 : decode cX7_undo 27 = .ok (.iconst (-1), 1) := by decide +kernel
theorem dX7_undo_28 : decode cX7_undo 28 = .ok (.ireturn, 1) := by decide +kernel
theorem dX7_saveSnapshot_0 : decode cX7_saveSnapshot 0 = .ok (.iload_n 1, 1) := by decide +kernel
theorem dX7_saveSnapshot_1 : decode cX7_saveSnapshot 1 = .ok (.ifCond .lt 8, 3) := by decide +kernel
theorem dX7_saveSnapshot_4 : decode cX7_saveSnapshot 4 = .ok (.iload_n 1, 1) := by decide +kernel
theorem dX7_saveSnapshot_5 : decode cX7_saveSnapshot 5 = .ok (.iconst 2, 1) := by decide +kernel
theorem dX7_saveSnapshot_6 : decode cX7_saveSnapshot 6 = .ok (.if_icmp .lt 5, 3) := by decide +kernel
theorem dX7_saveSnapshot_9 : decode cX7_saveSnapshot 9 = .ok (.iconst 0, 1) := by decide +kernel
theorem dX7_saveSnapshot_10 : decode cX7_saveSnapshot 10 = .ok (.ireturn, 1) := by decide +kernel
theorem dX7_saveSnapshot_11 : decode cX7_saveSnapshot 11 = .ok (.aload_n 0, 1) := by decide +kernel
theorem dX7_saveSnapshot_12 : decode cX7_saveSnapshot 12 = .ok (.getfield 32, 3) := by decide +kernel
theorem dX7_saveSnapshot_15 : decode cX7_saveSnapshot 15 = .ok (.iload_n 1, 1) := by decide +kernel
theorem dX7_saveSnapshot_16 : decode cX7_saveSnapshot 16 = .ok (.aaload, 1) := by decide +kernel
theorem dX7_saveSnapshot_17 : decode cX7_saveSnapshot 17 = .ok (.aload_n 0, 1) := by decide +kernel
theorem dX7_saveSnapshot_18 : decode cX7_saveSnapshot 18 = .ok (.getfield 19, 3) := by decide +kernel
theorem dX7_saveSnapshot_21 : decode cX7_saveSnapshot 21 = .ok (.getfield 99, 3) := by decide +kernel
theorem dX7_saveSnapshot_24 : decode cX7_saveSnapshot 24 = .ok (.invokevirtual 296, 3) := by decide +kernel
theorem dX7_saveSnapshot_27 : decode cX7_saveSnapshot 27 = .ok (.aload_n 0, 1) := by decide +kernel
theorem dX7_saveSnapshot_28 : decode cX7_saveSnapshot 28 = .ok (.getfield 36, 3) := by decide +kernel
theorem dX7_saveSnapshot_31 : decode cX7_saveSnapshot 31 = .ok (.iload_n 1, 1) := by decide +kernel
theorem dX7_saveSnapshot_32 : decode cX7_saveSnapshot 32 = .ok (.iconst 1, 1) := by decide +kernel
theorem dX7_saveSnapshot_33 : decode cX7_saveSnapshot 33 = .ok (.bastore, 1) := by decide +kernel
theorem dX7_saveSnapshot_34 : decode cX7_saveSnapshot 34 = .ok (.iconst 1, 1) := by decide +kernel
theorem dX7_saveSnapshot_35 : decode cX7_saveSnapshot 35 = .ok (.ireturn, 1) := by decide +kernel
theorem dX7_restoreSnapshot_0 : decode cX7_restoreSnapshot 0 = .ok (.iload_n 1, 1) := by decide +kernel
theorem dX7_restoreSnapshot_1 : decode cX7_restoreSnapshot 1 = .ok (.ifCond .lt 17, 3) := by decide +kernel
theorem dX7_restoreSnapshot_4 : decode cX7_restoreSnapshot 4 = .ok (.iload_n 1, 1) := by decide +kernel
theorem dX7_restoreSnapshot_5 : decode cX7_restoreSnapshot 5 = .ok (.iconst 2, 1) := by decide +kernel
theorem dX7_restoreSnapshot_6 : decode cX7_restoreSnapshot 6 = .ok (.if_icmp .ge 12, 3) := by decide +kernel
theorem dX7_restoreSnapshot_9 : decode cX7_restoreSnapshot 9 = .ok (.aload_n 0, 1) := by decide +kernel
theorem dX7_restoreSnapshot_10 : decode cX7_restoreSnapshot 10 = .ok (.getfield 36, 3) := by decide +kernel
theorem dX7_restoreSnapshot_13 : decode cX7_restoreSnapshot 13 = .ok (.iload_n 1, 1) := by decide +kernel
theorem dX7_restoreSnapshot_14 : decode cX7_restoreSnapshot 14 = .ok (.baload, 1) := by decide +kernel
theorem dX7_restoreSnapshot_15 : decode cX7_restoreSnapshot 15 = .ok (.ifCond .ne 5, 3) := by decide +kernel
theorem dX7_restoreSnapshot_18 : decode cX7_restoreSnapshot 18 = .ok (.iconst 0, 1) := by decide +kernel
theorem dX7_restoreSnapshot_19 : decode cX7_restoreSnapshot 19 = .ok (.ireturn, 1) := by decide +kernel
theorem dX7_restoreSnapshot_20 : decode cX7_restoreSnapshot 20 = .ok (.aload_n 0, 1) := by decide +kernel
theorem dX7_restoreSnapshot_21 : decode cX7_restoreSnapshot 21 = .ok (.getfield 19, 3) := by decide +kernel
theorem dX7_restoreSnapshot_24 : decode cX7_restoreSnapshot 24 = .ok (.getfield 99, 3) := by decide +kernel
theorem dX7_restoreSnapshot_27 : decode cX7_restoreSnapshot 27 = .ok (.aload_n 0, 1) := by decide +kernel
theorem dX7_restoreSnapshot_28 : decode cX7_restoreSnapshot 28 = .ok (.getfield 32, 3) := by decide +kernel
theorem dX7_restoreSnapshot_31 : decode cX7_restoreSnapshot 31 = .ok (.iload_n 1, 1) := by decide +kernel
theorem dX7_restoreSnapshot_32 : decode cX7_restoreSnapshot 32 = .ok (.aaload, 1) := by decide +kernel
theorem dX7_restoreSnapshot_33 : decode cX7_restoreSnapshot 33 = .ok (.invokevirtual 296, 3) := by decide +kernel
theorem dX7_restoreSnapshot_36 : decode cX7_restoreSnapshot 36 = .ok (.aload_n 0, 1) := by decide +kernel
theorem dX7_restoreSnapshot_37 : decode cX7_restoreSnapshot 37 = .ok (.getfield 26, 3) := by decide +kernel
theorem dX7_restoreSnapshot_40 : decode cX7_restoreSnapshot 40 = .ok (.invokevirtual 79, 3) := by decide +kernel
theorem dX7_restoreSnapshot_43 : decode cX7_restoreSnapshot 43 = .ok (.iconst 1, 1) := by decide +kernel
theorem dX7_restoreSnapshot_44 : decode cX7_restoreSnapshot 44 = .ok (.ireturn, 1) := by decide +kernel
theorem dX7_requireDevice_0 : decode cX7_requireDevice 0 = .ok (.aload_n 0, 1) := by decide +kernel
theorem dX7_requireDevice_1 : decode cX7_requireDevice 1 = .ok (.getfield 19, 3) := by decide +kernel
theorem dX7_requireDevice_4 : decode cX7_requireDevice 4 = .ok (.iload_n 1, 1) := by decide +kernel
theorem dX7_requireDevice_5 : decode cX7_requireDevice 5 = .ok (.invokevirtual 299, 3) := by decide +kernel
theorem dX7_requireDevice_8 : decode cX7_requireDevice 8 = .ok (.ifCond .ne 14, 3) := by decide +kernel
theorem dX7_requireDevice_11 : decode cX7_requireDevice 11 = .ok (.new 302, 3) := by decide +kernel
theorem dX7_requireDevice_14 : decode cX7_requireDevice 14 = .ok (.dup, 1) := by decide +kernel
theorem dX7_requireDevice_15 : decode cX7_requireDevice 15 = .ok (.ldc_w 304, 3) := by decide +kernel
theorem dX7_requireDevice_18 : decode cX7_requireDevice 18 = .ok (.invokespecial 306, 3) := by decide +kernel
theorem dX7_requireDevice_21 : decode cX7_requireDevice 21 = .ok (.athrow, 1) := by decide +kernel
theorem dX7_requireDevice_22 : decode cX7_requireDevice 22 = .ok (.return_, 1) := by decide +kernel
theorem dX7_requireStream_0 : decode cX7_requireStream 0 = .ok (.iload_n 1, 1) := by decide +kernel
theorem dX7_requireStream_1 : decode cX7_requireStream 1 = .ok (.ifCond .lt 17, 3) := by decide +kernel
theorem dX7_requireStream_4 : decode cX7_requireStream 4 = .ok (.iload_n 1, 1) := by decide +kernel
theorem dX7_requireStream_5 : decode cX7_requireStream 5 = .ok (.aload_n 0, 1) := by decide +kernel
theorem dX7_requireStream_6 : decode cX7_requireStream 6 = .ok (.getfield 19, 3) := by decide +kernel
theorem dX7_requireStream_9 : decode cX7_requireStream 9 = .ok (.getfield 67, 3) := by decide +kernel
theorem dX7_requireStream_12 : decode cX7_requireStream 12 = .ok (.getfield 82, 3) := by decide +kernel
theorem dX7_requireStream_15 : decode cX7_requireStream 15 = .ok (.if_icmp .lt 14, 3) := by decide +kernel
theorem dX7_requireStream_18 : decode cX7_requireStream 18 = .ok (.new 302, 3) := by decide +kernel
theorem dX7_requireStream_21 : decode cX7_requireStream 21 = .ok (.dup, 1) := by decide +kernel
theorem dX7_requireStream_22 : decode cX7_requireStream 22 = .ok (.ldc_w 307, 3) := by decide +kernel
theorem dX7_requireStream_25 : decode cX7_requireStream 25 = .ok (.invokespecial 306, 3) := by decide +kernel
theorem dX7_requireStream_28 : decode cX7_requireStream 28 = .ok (.athrow, 1) := by decide +kernel
theorem dX7_requireStream_29 : decode cX7_requireStream 29 = .ok (.return_, 1) := by decide +kernel
theorem dX7_requirePort_0 : decode cX7_requirePort 0 = .ok (.iload_n 1, 1) := by decide +kernel
theorem dX7_requirePort_1 : decode cX7_requirePort 1 = .ok (.ifCond .lt 17, 3) := by decide +kernel
theorem dX7_requirePort_4 : decode cX7_requirePort 4 = .ok (.iload_n 1, 1) := by decide +kernel
theorem dX7_requirePort_5 : decode cX7_requirePort 5 = .ok (.aload_n 0, 1) := by decide +kernel
theorem dX7_requirePort_6 : decode cX7_requirePort 6 = .ok (.getfield 19, 3) := by decide +kernel
theorem dX7_requirePort_9 : decode cX7_requirePort 9 = .ok (.getfield 67, 3) := by decide +kernel
theorem dX7_requirePort_12 : decode cX7_requirePort 12 = .ok (.getfield 96, 3) := by decide +kernel
theorem dX7_requirePort_15 : decode cX7_requirePort 15 = .ok (.if_icmp .lt 14, 3) := by decide +kernel
theorem dX7_requirePort_18 : decode cX7_requirePort 18 = .ok (.new 302, 3) := by decide +kernel
theorem dX7_requirePort_21 : decode cX7_requirePort 21 = .ok (.dup, 1) := by decide +kernel
theorem dX7_requirePort_22 : decode cX7_requirePort 22 = .ok (.ldc_w 309, 3) := by decide +kernel
theorem dX7_requirePort_25 : decode cX7_requirePort 25 = .ok (.invokespecial 306, 3) := by decide +kernel
theorem dX7_requirePort_28 : decode cX7_requirePort 28 = .ok (.athrow, 1) := by decide +kernel
theorem dX7_requirePort_29 : decode cX7_requirePort 29 = .ok (.return_, 1) := by decide +kernel
theorem dX7_requireKind_0 : decode cX7_requireKind 0 = .ok (.iload_n 1, 1) := by decide +kernel
theorem dX7_requireKind_1 : decode cX7_requireKind 1 = .ok (.ifCond .lt 8, 3) := by decide +kernel
theorem dX7_requireKind_4 : decode cX7_requireKind 4 = .ok (.iload_n 1, 1) := by decide +kernel
theorem dX7_requireKind_5 : decode cX7_requireKind 5 = .ok (.iconst 4, 1) := by decide +kernel
theorem dX7_requireKind_6 : decode cX7_requireKind 6 = .ok (.if_icmp .lt 14, 3) := by decide +kernel
theorem dX7_requireKind_9 : decode cX7_requireKind 9 = .ok (.new 53, 3) := by decide +kernel
theorem dX7_requireKind_12 : decode cX7_requireKind 12 = .ok (.dup, 1) := by decide +kernel
theorem dX7_requireKind_13 : decode cX7_requireKind 13 = .ok (.ldc_w 311, 3) := by decide +kernel
theorem dX7_requireKind_16 : decode cX7_requireKind 16 = .ok (.invokespecial 57, 3) := by decide +kernel
theorem dX7_requireKind_19 : decode cX7_requireKind 19 = .ok (.athrow, 1) := by decide +kernel
theorem dX7_requireKind_20 : decode cX7_requireKind 20 = .ok (.return_, 1) := by decide +kernel
theorem dX7_requirePluggedIn_0 : decode cX7_requirePluggedIn 0 = .ok (.aload_n 0, 1) := by decide +kernel
theorem dX7_requirePluggedIn_1 : decode cX7_requirePluggedIn 1 = .ok (.getfield 19, 3) := by decide +kernel
theorem dX7_requirePluggedIn_4 : decode cX7_requirePluggedIn 4 = .ok (.iload_n 1, 1) := by decide +kernel
theorem dX7_requirePluggedIn_5 : decode cX7_requirePluggedIn 5 = .ok (.invokevirtual 209, 3) := by decide +kernel
theorem dX7_requirePluggedIn_8 : decode cX7_requirePluggedIn 8 = .ok (.ifCond .ne 14, 3) := by decide +kernel
theorem dX7_requirePluggedIn_11 : decode cX7_requirePluggedIn 11 = .ok (.new 259, 3) := by decide +kernel
theorem dX7_requirePluggedIn_14 : decode cX7_requirePluggedIn 14 = .ok (.dup, 1) := by decide +kernel
theorem dX7_requirePluggedIn_15 : decode cX7_requirePluggedIn 15 = .ok (.ldc_w 313, 3) := by decide +kernel
theorem dX7_requirePluggedIn_18 : decode cX7_requirePluggedIn 18 = .ok (.invokespecial 263, 3) := by decide +kernel
theorem dX7_requirePluggedIn_21 : decode cX7_requirePluggedIn 21 = .ok (.athrow, 1) := by decide +kernel
theorem dX7_requirePluggedIn_22 : decode cX7_requirePluggedIn 22 = .ok (.return_, 1) := by decide +kernel
theorem dX8_init_0 : decode cX8_init 0 = .ok (.aload_n 0, 1) := by decide +kernel
theorem dX8_init_1 : decode cX8_init 1 = .ok (.invokespecial 1, 3) := by decide +kernel
theorem dX8_init_4 : decode cX8_init 4 = .ok (.aload_n 0, 1) := by decide +kernel
theorem dX8_init_5 : decode cX8_init 5 = .ok (.sipush 600, 3) := by decide +kernel
theorem dX8_init_8 : decode cX8_init 8 = .ok (.newarray .byte, 2) := by decide +kernel
theorem dX8_init_10 : decode cX8_init 10 = .ok (.putfield 7, 3) := by decide +kernel
theorem dX8_init_13 : decode cX8_init 13 = .ok (.aload_n 0, 1) := by decide +kernel
theorem dX8_init_14 : decode cX8_init 14 = .ok (.bipush 107, 2) := by decide +kernel
theorem dX8_init_16 : decode cX8_init 16 = .ok (.newarray .int, 2) := by decide +kernel
theorem dX8_init_18 : decode cX8_init 18 = .ok (.putfield 13, 3) := by decide +kernel
theorem dX8_init_21 : decode cX8_init 21 = .ok (.aload_n 0, 1) := by decide +kernel
theorem dX8_init_22 : decode cX8_init 22 = .ok (.bipush 107, 2) := by decide +kernel
theorem dX8_init_24 : decode cX8_init 24 = .ok (.newarray .int, 2) := by decide +kernel
theorem dX8_init_26 : decode cX8_init 26 = .ok (.putfield 17, 3) := by decide +kernel
theorem dX8_init_29 : decode cX8_init 29 = .ok (.aload_n 0, 1) := by decide +kernel
theorem dX8_init_30 : decode cX8_init 30 = .ok (.sipush 288, 3) := by decide +kernel
theorem dX8_init_33 : decode cX8_init 33 = .ok (.newarray .byte, 2) := by decide +kernel
theorem dX8_init_35 : decode cX8_init 35 = .ok (.putfield 20, 3) := by decide +kernel
theorem dX8_init_38 : decode cX8_init 38 = .ok (.aload_n 0, 1) := by decide +kernel
theorem dX8_init_39 : decode cX8_init 39 = .ok (.sipush 410, 3) := by decide +kernel
theorem dX8_init_42 : decode cX8_init 42 = .ok (.newarray .int, 2) := by decide +kernel
theorem dX8_init_44 : decode cX8_init 44 = .ok (.putfield 23, 3) := by decide +kernel
theorem dX8_init_47 : decode cX8_init 47 = .ok (.aload_n 0, 1) := by decide +kernel
theorem dX8_init_48 : decode cX8_init 48 = .ok (.bipush 12, 2) := by decide +kernel
theorem dX8_init_50 : decode cX8_init 50 = .ok (.newarray .long, 2) := by decide +kernel
theorem dX8_init_52 : decode cX8_init 52 = .ok (.putfield 26, 3) := by decide +kernel
theorem dX8_init_55 : decode cX8_init 55 = .ok (.aload_n 0, 1) := by decide +kernel
theorem dX8_init_56 : decode cX8_init 56 = .ok (.sipush 4100, 3) := by decide +kernel
theorem dX8_init_59 : decode cX8_init 59 = .ok (.newarray .int, 2) := by decide +kernel
theorem dX8_init_61 : decode cX8_init 61 = .ok (.putfield 30, 3) := by decide +kernel
theorem dX8_init_64 : decode cX8_init 64 = .ok (.aload_n 0, 1) := by decide +kernel
theorem dX8_init_65 : decode cX8_init 65 = .ok (.bipush 120, 2) := by decide +kernel
theorem dX8_init_67 : decode cX8_init 67 = .ok (.newarray .long, 2) := by decide +kernel
theorem dX8_init_69 : decode cX8_init 69 = .ok (.putfield 33, 3) := by decide +kernel
theorem dX8_init_72 : decode cX8_init 72 = .ok (.aload_n 0, 1) := by decide +kernel
theorem dX8_init_73 : decode cX8_init 73 = .ok (.sipush 820, 3) := by decide +kernel
theorem dX8_init_76 : decode cX8_init 76 = .ok (.newarray .int, 2) := by decide +kernel
theorem dX8_init_78 : decode cX8_init 78 = .ok (.putfield 36, 3) := by decide +kernel
theorem dX8_init_81 : decode cX8_init 81 = .ok (.aload_n 0, 1) := by decide +kernel
theorem dX8_init_82 : decode cX8_init 82 = .ok (.bipush 24, 2) := by decide +kernel
theorem dX8_init_84 : decode cX8_init 84 = .ok (.newarray .long, 2) := by decide +kernel
theorem dX8_init_86 : decode cX8_init 86 = .ok (.putfield 39, 3) := by decide +kernel
theorem dX8_init_89 : decode cX8_init 89 = .ok (.aload_n 0, 1) := by decide +kernel
theorem dX8_init_90 : decode cX8_init 90 = .ok (.iconst 2, 1) := by decide +kernel
theorem dX8_init_91 : decode cX8_init 91 = .ok (.newarray .boolean, 2) := by decide +kernel
theorem dX8_init_93 : decode cX8_init 93 = .ok (.putfield 42, 3) := by decide +kernel
theorem dX8_init_96 : decode cX8_init 96 = .ok (.aload_n 0, 1) := by decide +kernel
theorem dX8_init_97 : decode cX8_init 97 = .ok (.bipush 28, 2) := by decide +kernel
theorem dX8_init_99 : decode cX8_init 99 = .ok (.newarray .int, 2) := by decide +kernel
theorem dX8_init_101 : decode cX8_init 101 = .ok (.putfield 46, 3) := by decide +kernel
theorem dX8_init_104 : decode cX8_init 104 = .ok (.aload_n 0, 1) := by decide +kernel
theorem dX8_init_105 : decode cX8_init 105 = .ok (.invokevirtual 49, 3) := by decide +kernel
theorem dX8_init_108 : decode cX8_init 108 = .ok (.aload_n 0, 1) := by decide +kernel
theorem dX8_init_109 : decode cX8_init 109 = .ok (.invokevirtual 52, 3) := by decide +kernel
theorem dX8_init_112 : decode cX8_init 112 = .ok (.return_, 1) := by decide +kernel
theorem dX8_thrown_0 : decode cX8_thrown 0 = .ok (.aload_n 0, 1) := by decide +kernel
theorem dX8_thrown_1 : decode cX8_thrown 1 = .ok (.getfield 55, 3) := by decide +kernel
theorem dX8_thrown_4 : decode cX8_thrown 4 = .ok (.ireturn, 1) := by decide +kernel
theorem dX8_within_0 : decode cX8_within 0 = .ok (.iload_n 0, 1) := by decide +kernel
theorem dX8_within_1 : decode cX8_within 1 = .ok (.iload_n 1, 1) := by decide +kernel
theorem dX8_within_2 : decode cX8_within 2 = .ok (.if_icmp .lt 12, 3) := by decide +kernel
theorem dX8_within_5 : decode cX8_within 5 = .ok (.iload_n 0, 1) := by decide +kernel
theorem dX8_within_6 : decode cX8_within 6 = .ok (.iload_n 2, 1) := by decide +kernel
theorem dX8_within_7 : decode cX8_within 7 = .ok (.if_icmp .gt 7, 3) := by decide +kernel
theorem dX8_within_10 : decode cX8_within 10 = .ok (.iconst 1, 1) := by decide +kernel
theorem dX8_within_11 : decode cX8_within 11 = .ok (.goto 4, 3) := by decide +kernel
theorem dX8_within_14 : decode cX8_within 14 = .ok (.iconst 0, 1) := by decide +kernel
theorem dX8_within_15 : decode cX8_within 15 = .ok (.ireturn, 1) := by decide +kernel
theorem dX8_fail0_0 : decode cX8_fail0 0 = .ok (.aload_n 0, 1) := by decide +kernel
theorem dX8_fail0_1 : decode cX8_fail0 1 = .ok (.iload_n 1, 1) := by decide +kernel
theorem dX8_fail0_2 : decode cX8_fail0 2 = .ok (.putfield 55, 3) := by decide +kernel
theorem dX8_fail0_5 : decode cX8_fail0 5 = .ok (.iconst 0, 1) := by decide +kernel
theorem dX8_fail0_6 : decode cX8_fail0 6 = .ok (.ireturn, 1) := by decide +kernel
theorem dX8_appendInt_0 : decode cX8_appendInt 0 = .ok (.bipush 24, 2) := by decide +kernel
theorem dX8_appendInt_2 : decode cX8_appendInt 2 = .ok (.istore_n 2, 1) := by decide +kernel
theorem dX8_appendInt_3 : decode cX8_appendInt 3 = .ok (.iload_n 2, 1) := by decide +kernel
theorem dX8_appendInt_4 : decode cX8_appendInt 4 = .ok (.ifCond .lt 32, 3) := by decide +kernel
theorem dX8_appendInt_7 : decode cX8_appendInt 7 = .ok (.aload_n 0, 1) := by decide +kernel
theorem dX8_appendInt_8 : decode cX8_appendInt 8 = .ok (.getfield 7, 3) := by decide +kernel
theorem dX8_appendInt_11 : decode cX8_appendInt 11 = .ok (.aload_n 0, 1) := by decide +kernel
theorem dX8_appendInt_12 : decode cX8_appendInt 12 = .ok (.getfield 59, 3) := by decide +kernel
theorem dX8_appendInt_15 : decode cX8_appendInt 15 = .ok (.iload_n 1, 1) := by decide +kernel
theorem dX8_appendInt_16 : decode cX8_appendInt 16 = .ok (.iload_n 2, 1) := by decide +kernel
theorem dX8_appendInt_17 : decode cX8_appendInt 17 = .ok (.ishr, 1) := by decide +kernel
theorem dX8_appendInt_18 : decode cX8_appendInt 18 = .ok (.i2b, 1) := by decide +kernel
theorem dX8_appendInt_19 : decode cX8_appendInt 19 = .ok (.bastore, 1) := by decide +kernel
theorem dX8_appendInt_20 : decode cX8_appendInt 20 = .ok (.aload_n 0, 1) := by decide +kernel
theorem dX8_appendInt_21 : decode cX8_appendInt 21 = .ok (.dup, 1) := by decide +kernel
theorem dX8_appendInt_22 : decode cX8_appendInt 22 = .ok (.getfield 59, 3) := by decide +kernel
theorem dX8_appendInt_25 : decode cX8_appendInt 25 = .ok (.iconst 1, 1) := by decide +kernel
theorem dX8_appendInt_26 : decode cX8_appendInt 26 = .ok (.iadd, 1) := by decide +kernel
theorem dX8_appendInt_27 : decode cX8_appendInt 27 = .ok (.putfield 59, 3) := by decide +kernel
theorem dX8_appendInt_30 : decode cX8_appendInt 30 = .ok (.iinc 2 (-8), 3) := by decide +kernel
theorem dX8_appendInt_33 : decode cX8_appendInt 33 = .ok (.goto (-30), 3) := by decide +kernel
theorem dX8_appendInt_36 : decode cX8_appendInt 36 = .ok (.return_, 1) := by decide +kernel
theorem dX8_append_0 : decode cX8_append 0 = .ok (.aload_n 0, 1) := by decide +kernel
theorem dX8_append_1 : decode cX8_append 1 = .ok (.iconst 0, 1) := by decide +kernel
theorem dX8_append_2 : decode cX8_append 2 = .ok (.putfield 55, 3) := by decide +kernel
theorem dX8_append_5 : decode cX8_append 5 = .ok (.aload_n 0, 1) := by decide +kernel
theorem dX8_append_6 : decode cX8_append 6 = .ok (.getfield 59, 3) := by decide +kernel
theorem dX8_append_9 : decode cX8_append 9 = .ok (.bipush 20, 2) := by decide +kernel
theorem dX8_append_11 : decode cX8_append 11 = .ok (.iadd, 1) := by decide +kernel
theorem dX8_append_12 : decode cX8_append 12 = .ok (.sipush 600, 3) := by decide +kernel
theorem dX8_append_15 : decode cX8_append 15 = .ok (.if_icmp .le 5, 3) := by decide +kernel
theorem dX8_append_18 : decode cX8_append 18 = .ok (.iconst (-1), 1) := by decide +kernel
theorem dX8_append_19 : decode cX8_append 19 = .ok (.ireturn, 1) := by decide +kernel
theorem dX8_append_20 : decode cX8_append 20 = .ok (.aload_n 0, 1) := by decide +kernel
theorem dX8_append_21 : decode cX8_append 21 = .ok (.iload_n 1, 1) := by decide +kernel
theorem dX8_append_22 : decode cX8_append 22 = .ok (.invokevirtual 62, 3) := by decide +kernel
theorem dX8_append_25 : decode cX8_append 25 = .ok (.aload_n 0, 1) := by decide +kernel
theorem dX8_append_26 : decode cX8_append 26 = .ok (.iload_n 2, 1) := by decide +kernel
theorem dX8_append_27 : decode cX8_append 27 = .ok (.invokevirtual 62, 3) := by decide +kernel
theorem dX8_append_30 : decode cX8_append 30 = .ok (.aload_n 0, 1) := by decide +kernel
theorem dX8_append_31 : decode cX8_append 31 = .ok (.iload_n 3, 1) := by decide +kernel
theorem dX8_append_32 : decode cX8_append 32 = .ok (.invokevirtual 62, 3) := by decide +kernel
theorem dX8_append_35 : decode cX8_append 35 = .ok (.aload_n 0, 1) := by decide +kernel
theorem dX8_append_36 : decode cX8_append 36 = .ok (.iload 4, 2) := by decide +kernel
theorem dX8_append_38 : decode cX8_append 38 = .ok (.invokevirtual 62, 3) := by decide +kernel
theorem dX8_append_41 : decode cX8_append 41 = .ok (.aload_n 0, 1) := by decide +kernel
theorem dX8_append_42 : decode cX8_append 42 = .ok (.iload 5, 2) := by decide +kernel
theorem dX8_append_44 : decode cX8_append 44 = .ok (.invokevirtual 62, 3) := by decide +kernel
theorem dX8_append_47 : decode cX8_append 47 = .ok (.aload_n 0, 1) := by decide +kernel
theorem dX8_append_48 : decode cX8_append 48 = .ok (.getfield 59, 3) := by decide +kernel
theorem dX8_append_51 : decode cX8_append 51 = .ok (.ireturn, 1) := by decide +kernel
theorem dX8_byteAt_0 : decode cX8_byteAt 0 = .ok (.iload_n 1, 1) := by decide +kernel
theorem dX8_byteAt_1 : decode cX8_byteAt 1 = .ok (.aload_n 0, 1) := by decide +kernel
theorem dX8_byteAt_2 : decode cX8_byteAt 2 = .ok (.getfield 66, 3) := by decide +kernel
theorem dX8_byteAt_5 : decode cX8_byteAt 5 = .ok (.if_icmp .ge 16, 3) := by decide +kernel
theorem dX8_byteAt_8 : decode cX8_byteAt 8 = .ok (.aload_n 0, 1) := by decide +kernel
theorem dX8_byteAt_9 : decode cX8_byteAt 9 = .ok (.getfield 7, 3) := by decide +kernel
theorem dX8_byteAt_12 : decode cX8_byteAt 12 = .ok (.iload_n 1, 1) := by decide +kernel
theorem dX8_byteAt_13 : decode cX8_byteAt 13 = .ok (.baload, 1) := by decide +kernel
theorem dX8_byteAt_14 : decode cX8_byteAt 14 = .ok (.sipush 255, 3) := by decide +kernel
theorem dX8_byteAt_17 : decode cX8_byteAt 17 = .ok (.iand, 1) := by decide +kernel
theorem dX8_byteAt_18 : decode cX8_byteAt 18 = .ok (.goto 4, 3) := by decide +kernel
theorem dX8_byteAt_21 : decode cX8_byteAt 21 = .ok (.iconst (-1), 1) := by decide +kernel
theorem dX8_byteAt_22 : decode cX8_byteAt 22 = .ok (.ireturn, 1) := by decide +kernel
theorem dX8_nextToken_0 : decode cX8_nextToken 0 = .ok (.aload_n 0, 1) := by decide +kernel
theorem dX8_nextToken_1 : decode cX8_nextToken 1 = .ok (.aload_n 0, 1) := by decide +kernel
theorem dX8_nextToken_2 : decode cX8_nextToken 2 = .ok (.getfield 69, 3) := by decide +kernel
theorem dX8_nextToken_5 : decode cX8_nextToken 5 = .ok (.putfield 72, 3) := by decide +kernel
theorem dX8_nextToken_8 : decode cX8_nextToken 8 = .ok (.aload_n 0, 1) := by decide +kernel
theorem dX8_nextToken_9 : decode cX8_nextToken 9 = .ok (.aload_n 0, 1) := by decide +kernel
theorem dX8_nextToken_10 : decode cX8_nextToken 10 = .ok (.getfield 72, 3) := by decide +kernel
theorem dX8_nextToken_13 : decode cX8_nextToken 13 = .ok (.invokevirtual 75, 3) := by decide +kernel
theorem dX8_nextToken_16 : decode cX8_nextToken 16 = .ok (.bipush 32, 2) := by decide +kernel
theorem dX8_nextToken_18 : decode cX8_nextToken 18 = .ok (.if_icmp .eq 16, 3) := by decide +kernel
theorem dX8_nextToken_21 : decode cX8_nextToken 21 = .ok (.aload_n 0, 1) := by decide +kernel
theorem dX8_nextToken_22 : decode cX8_nextToken 22 = .ok (.aload_n 0, 1) := by decide +kernel
theorem dX8_nextToken_23 : decode cX8_nextToken 23 = .ok (.getfield 72, 3) := by decide +kernel
theorem dX8_nextToken_26 : decode cX8_nextToken 26 = .ok (.invokevirtual 75, 3) := by decide +kernel
theorem dX8_nextToken_29 : decode cX8_nextToken 29 = .ok (.bipush 10, 2) := by decide +kernel
theorem dX8_nextToken_31 : decode cX8_nextToken 31 = .ok (.if_icmp .ne 16, 3) := by decide +kernel
theorem dX8_nextToken_34 : decode cX8_nextToken 34 = .ok (.aload_n 0, 1) := by decide +kernel
theorem dX8_nextToken_35 : decode cX8_nextToken 35 = .ok (.dup, 1) := by decide +kernel
theorem dX8_nextToken_36 : decode cX8_nextToken 36 = .ok (.getfield 72, 3) := by decide +kernel
theorem dX8_nextToken_39 : decode cX8_nextToken 39 = .ok (.iconst 1, 1) := by decide +kernel
theorem dX8_nextToken_40 : decode cX8_nextToken 40 = .ok (.iadd, 1) := by decide +kernel
theorem dX8_nextToken_41 : decode cX8_nextToken 41 = .ok (.putfield 72, 3) := by decide +kernel
theorem dX8_nextToken_44 : decode cX8_nextToken 44 = .ok (.goto (-36), 3) := by decide +kernel
theorem dX8_nextToken_47 : decode cX8_nextToken 47 = .ok (.aload_n 0, 1) := by decide +kernel
theorem dX8_nextToken_48 : decode cX8_nextToken 48 = .ok (.aload_n 0, 1) := by decide +kernel
theorem dX8_nextToken_49 : decode cX8_nextToken 49 = .ok (.getfield 72, 3) := by decide +kernel
theorem dX8_nextToken_52 : decode cX8_nextToken 52 = .ok (.invokevirtual 75, 3) := by decide +kernel
theorem dX8_nextToken_55 : decode cX8_nextToken 55 = .ok (.istore_n 1, 1) := by decide +kernel
theorem dX8_nextToken_56 : decode cX8_nextToken 56 = .ok (.aload_n 0, 1) := by decide +kernel
theorem dX8_nextToken_57 : decode cX8_nextToken 57 = .ok (.aload_n 0, 1) := by decide +kernel
theorem dX8_nextToken_58 : decode cX8_nextToken 58 = .ok (.getfield 72, 3) := by decide +kernel
theorem dX8_nextToken_61 : decode cX8_nextToken 61 = .ok (.putfield 69, 3) := by decide +kernel
theorem dX8_nextToken_64 : decode cX8_nextToken 64 = .ok (.aload_n 0, 1) := by decide +kernel
theorem dX8_nextToken_65 : decode cX8_nextToken 65 = .ok (.iconst 4, 1) := by decide +kernel
theorem dX8_nextToken_66 : decode cX8_nextToken 66 = .ok (.putfield 79, 3) := by decide +kernel
theorem dX8_nextToken_69 : decode cX8_nextToken 69 = .ok (.iload_n 1, 1) := by decide +kernel
theorem dX8_nextToken_70 : decode cX8_nextToken 70 = .ok (.iconst (-1), 1) := by decide +kernel
theorem dX8_nextToken_71 : decode cX8_nextToken 71 = .ok (.if_icmp .ne 11, 3) := by decide +kernel
theorem dX8_nextToken_74 : decode cX8_nextToken 74 = .ok (.aload_n 0, 1) := by decide +kernel
theorem dX8_nextToken_75 : decode cX8_nextToken 75 = .ok (.iconst 0, 1) := by decide +kernel
theorem dX8_nextToken_76 : decode cX8_nextToken 76 = .ok (.putfield 79, 3) := by decide +kernel
theorem dX8_nextToken_79 : decode cX8_nextToken 79 = .ok (.goto 211, 3) := by decide +kernel
theorem dX8_nextToken_82 : decode cX8_nextToken 82 = .ok (.iload_n 1, 1) := by decide +kernel
theorem dX8_nextToken_83 : decode cX8_nextToken 83 = .ok (.bipush 97, 2) := by decide +kernel
theorem dX8_nextToken_85 : decode cX8_nextToken 85 = .ok (.bipush 122, 2) := by decide +kernel
theorem dX8_nextToken_87 : decode cX8_nextToken 87 = .ok (.invokestatic 82, 3) := by decide +kernel
theorem dX8_nextToken_90 : decode cX8_nextToken 90 = .ok (.ifCond .eq 60, 3) := by decide +kernel
theorem dX8_nextToken_93 : decode cX8_nextToken 93 = .ok (.aload_n 0, 1) := by decide +kernel
theorem dX8_nextToken_94 : decode cX8_nextToken 94 = .ok (.aload_n 0, 1) := by decide +kernel
theorem dX8_nextToken_95 : decode cX8_nextToken 95 = .ok (.getfield 69, 3) := by decide +kernel
theorem dX8_nextToken_98 : decode cX8_nextToken 98 = .ok (.invokevirtual 75, 3) := by decide +kernel
theorem dX8_nextToken_101 : decode cX8_nextToken 101 = .ok (.bipush 97, 2) := by decide +kernel
theorem dX8_nextToken_103 : decode cX8_nextToken 103 = .ok (.bipush 122, 2) := by decide +kernel
theorem dX8_nextToken_105 : decode cX8_nextToken 105 = .ok (.invokestatic 82, 3) := by decide +kernel
theorem dX8_nextToken_108 : decode cX8_nextToken 108 = .ok (.ifCond .eq 16, 3) := by decide +kernel
theorem dX8_nextToken_111 : decode cX8_nextToken 111 = .ok (.aload_n 0, 1) := by decide +kernel
theorem dX8_nextToken_112 : decode cX8_nextToken 112 = .ok (.dup, 1) := by decide +kernel
theorem dX8_nextToken_113 : decode cX8_nextToken 113 = .ok (.getfield 69, 3) := by decide +kernel
theorem dX8_nextToken_116 : decode cX8_nextToken 116 = .ok (.iconst 1, 1) := by decide +kernel
theorem dX8_nextToken_117 : decode cX8_nextToken 117 = .ok (.iadd, 1) := by decide +kernel
theorem dX8_nextToken_118 : decode cX8_nextToken 118 = .ok (.putfield 69, 3) := by decide +kernel
theorem dX8_nextToken_121 : decode cX8_nextToken 121 = .ok (.goto (-28), 3) := by decide +kernel
theorem dX8_nextToken_124 : decode cX8_nextToken 124 = .ok (.aload_n 0, 1) := by decide +kernel
theorem dX8_nextToken_125 : decode cX8_nextToken 125 = .ok (.aload_n 0, 1) := by decide +kernel
theorem dX8_nextToken_126 : decode cX8_nextToken 126 = .ok (.getfield 69, 3) := by decide +kernel
theorem dX8_nextToken_129 : decode cX8_nextToken 129 = .ok (.aload_n 0, 1) := by decide +kernel
theorem dX8_nextToken_130 : decode cX8_nextToken 130 = .ok (.getfield 72, 3) := by decide +kernel
theorem dX8_nextToken_133 : decode cX8_nextToken 133 = .ok (.isub, 1) := by decide +kernel
theorem dX8_nextToken_134 : decode cX8_nextToken 134 = .ok (.bipush 8, 2) := by decide +kernel
theorem dX8_nextToken_136 : decode cX8_nextToken 136 = .ok (.if_icmp .le 7, 3) := by decide +kernel
theorem dX8_nextToken_139 : decode cX8_nextToken 139 = .ok (.iconst 4, 1) := by decide +kernel
theorem dX8_nextToken_140 : decode cX8_nextToken 140 = .ok (.goto 4, 3) := by decide +kernel
theorem dX8_nextToken_143 : decode cX8_nextToken 143 = .ok (.iconst 1, 1) := by decide +kernel
theorem dX8_nextToken_144 : decode cX8_nextToken 144 = .ok (.putfield 79, 3) := by decide +kernel
theorem dX8_nextToken_147 : decode cX8_nextToken 147 = .ok (.goto 143, 3) := by decide +kernel
theorem dX8_nextToken_150 : decode cX8_nextToken 150 = .ok (.iload_n 1, 1) := by decide +kernel
theorem dX8_nextToken_151 : decode cX8_nextToken 151 = .ok (.bipush 48, 2) := by decide +kernel
theorem dX8_nextToken_153 : decode cX8_nextToken 153 = .ok (.bipush 57, 2) := by decide +kernel
theorem dX8_nextToken_155 : decode cX8_nextToken 155 = .ok (.invokestatic 82, 3) := by decide +kernel
theorem dX8_nextToken_158 : decode cX8_nextToken 158 = .ok (.ifCond .eq 107, 3) := by decide +kernel
theorem dX8_nextToken_161 : decode cX8_nextToken 161 = .ok (.aload_n 0, 1) := by decide +kernel
theorem dX8_nextToken_162 : decode cX8_nextToken 162 = .ok (.iconst 0, 1) := by decide +kernel
theorem dX8_nextToken_163 : decode cX8_nextToken 163 = .ok (.putfield 86, 3) := by decide +kernel
theorem dX8_nextToken_166 : decode cX8_nextToken 166 = .ok (.aload_n 0, 1) := by decide +kernel
theorem dX8_nextToken_167 : decode cX8_nextToken 167 = .ok (.aload_n 0, 1) := by decide +kernel
theorem dX8_nextToken_168 : decode cX8_nextToken 168 = .ok (.getfield 69, 3) := by decide +kernel
theorem dX8_nextToken_171 : decode cX8_nextToken 171 = .ok (.invokevirtual 75, 3) := by decide +kernel
theorem dX8_nextToken_174 : decode cX8_nextToken 174 = .ok (.bipush 48, 2) := by decide +kernel
theorem dX8_nextToken_176 : decode cX8_nextToken 176 = .ok (.bipush 57, 2) := by decide +kernel
theorem dX8_nextToken_178 : decode cX8_nextToken 178 = .ok (.invokestatic 82, 3) := by decide +kernel
theorem dX8_nextToken_181 : decode cX8_nextToken 181 = .ok (.ifCond .eq 59, 3) := by decide +kernel
theorem dX8_nextToken_184 : decode cX8_nextToken 184 = .ok (.aload_n 0, 1) := by decide +kernel
theorem dX8_nextToken_185 : decode cX8_nextToken 185 = .ok (.aload_n 0, 1) := by decide +kernel
theorem dX8_nextToken_186 : decode cX8_nextToken 186 = .ok (.getfield 69, 3) := by decide +kernel
theorem dX8_nextToken_189 : decode cX8_nextToken 189 = .ok (.aload_n 0, 1) := by decide +kernel
theorem dX8_nextToken_190 : decode cX8_nextToken 190 = .ok (.getfield 72, 3) := by decide +kernel
theorem dX8_nextToken_193 : decode cX8_nextToken 193 = .ok (.isub, 1) := by decide +kernel
theorem dX8_nextToken_194 : decode cX8_nextToken 194 = .ok (.iconst 4, 1) := by decide +kernel
theorem dX8_nextToken_195 : decode cX8_nextToken 195 = .ok (.if_icmp .ge 25, 3) := by decide +kernel
theorem dX8_nextToken_198 : decode cX8_nextToken 198 = .ok (.bipush 10, 2) := by decide +kernel
theorem dX8_nextToken_200 : decode cX8_nextToken 200 = .ok (.aload_n 0, 1) := by decide +kernel
theorem dX8_nextToken_201 : decode cX8_nextToken 201 = .ok (.getfield 86, 3) := by decide +kernel
theorem dX8_nextToken_204 : decode cX8_nextToken 204 = .ok (.imul, 1) := by decide +kernel
theorem dX8_nextToken_205 : decode cX8_nextToken 205 = .ok (.aload_n 0, 1) := by decide +kernel
theorem dX8_nextToken_206 : decode cX8_nextToken 206 = .ok (.aload_n 0, 1) := by decide +kernel
theorem dX8_nextToken_207 : decode cX8_nextToken 207 = .ok (.getfield 69, 3) := by decide +kernel
theorem dX8_nextToken_210 : decode cX8_nextToken 210 = .ok (.invokevirtual 75, 3) := by decide +kernel
theorem dX8_nextToken_213 : decode cX8_nextToken 213 = .ok (.iadd, 1) := by decide +kernel
theorem dX8_nextToken_214 : decode cX8_nextToken 214 = .ok (.bipush 48, 2) := by decide +kernel
theorem dX8_nextToken_216 : decode cX8_nextToken 216 = .ok (.isub, 1) := by decide +kernel
theorem dX8_nextToken_217 : decode cX8_nextToken 217 = .ok (.goto 7, 3) := by decide +kernel
theorem dX8_nextToken_220 : decode cX8_nextToken 220 = .ok (.aload_n 0, 1) := by decide +kernel
theorem dX8_nextToken_221 : decode cX8_nextToken 221 = .ok (.getfield 86, 3) := by decide +kernel
theorem dX8_nextToken_224 : decode cX8_nextToken 224 = .ok (.putfield 86, 3) := by decide +kernel
theorem dX8_nextToken_227 : decode cX8_nextToken 227 = .ok (.aload_n 0, 1) := by decide +kernel
theorem dX8_nextToken_228 : decode cX8_nextToken 228 = .ok (.dup, 1) := by decide +kernel
theorem dX8_nextToken_229 : decode cX8_nextToken 229 = .ok (.getfield 69, 3) := by decide +kernel
theorem dX8_nextToken_232 : decode cX8_nextToken 232 = .ok (.iconst 1, 1) := by decide +kernel
theorem dX8_nextToken_233 : decode cX8_nextToken 233 = .ok (.iadd, 1) := by decide +kernel
theorem dX8_nextToken_234 : decode cX8_nextToken 234 = .ok (.putfield 69, 3) := by decide +kernel
theorem dX8_nextToken_237 : decode cX8_nextToken 237 = .ok (.goto (-71), 3) := by decide +kernel
theorem dX8_nextToken_240 : decode cX8_nextToken 240 = .ok (.aload_n 0, 1) := by decide +kernel
theorem dX8_nextToken_241 : decode cX8_nextToken 241 = .ok (.aload_n 0, 1) := by decide +kernel
theorem dX8_nextToken_242 : decode cX8_nextToken 242 = .ok (.getfield 69, 3) := by decide +kernel
theorem dX8_nextToken_245 : decode cX8_nextToken 245 = .ok (.aload_n 0, 1) := by decide +kernel
theorem dX8_nextToken_246 : decode cX8_nextToken 246 = .ok (.getfield 72, 3) := by decide +kernel
theorem dX8_nextToken_249 : decode cX8_nextToken 249 = .ok (.isub, 1) := by decide +kernel
theorem dX8_nextToken_250 : decode cX8_nextToken 250 = .ok (.iconst 4, 1) := by decide +kernel
theorem dX8_nextToken_251 : decode cX8_nextToken 251 = .ok (.if_icmp .le 7, 3) := by decide +kernel
theorem dX8_nextToken_254 : decode cX8_nextToken 254 = .ok (.iconst 4, 1) := by decide +kernel
theorem dX8_nextToken_255 : decode cX8_nextToken 255 = .ok (.goto 4, 3) := by decide +kernel
theorem dX8_nextToken_258 : decode cX8_nextToken 258 = .ok (.iconst 2, 1) := by decide +kernel
theorem dX8_nextToken_259 : decode cX8_nextToken 259 = .ok (.putfield 79, 3) := by decide +kernel
theorem dX8_nextToken_262 : decode cX8_nextToken 262 = .ok (.goto 28, 3) := by decide +kernel
theorem dX8_nextToken_265 : decode cX8_nextToken 265 = .ok (.aload_n 0, 1) := by decide +kernel
theorem dX8_nextToken_266 : decode cX8_nextToken 266 = .ok (.dup, 1) := by decide +kernel
theorem dX8_nextToken_267 : decode cX8_nextToken 267 = .ok (.getfield 69, 3) := by decide +kernel
theorem dX8_nextToken_270 : decode cX8_nextToken 270 = .ok (.iconst 1, 1) := by decide +kernel
theorem dX8_nextToken_271 : decode cX8_nextToken 271 = .ok (.iadd, 1) := by decide +kernel
theorem dX8_nextToken_272 : decode cX8_nextToken 272 = .ok (.putfield 69, 3) := by decide +kernel
theorem dX8_nextToken_275 : decode cX8_nextToken 275 = .ok (.aload_n 0, 1) := by decide +kernel
theorem dX8_nextToken_276 : decode cX8_nextToken 276 = .ok (.iload_n 1, 1) := by decide +kernel
theorem dX8_nextToken_277 : decode cX8_nextToken 277 = .ok (.bipush 59, 2) := by decide +kernel
theorem dX8_nextToken_279 : decode cX8_nextToken 279 = .ok (.if_icmp .ne 7, 3) := by decide +kernel
theorem dX8_nextToken_282 : decode cX8_nextToken 282 = .ok (.iconst 3, 1) := by decide +kernel
theorem dX8_nextToken_283 : decode cX8_nextToken 283 = .ok (.goto 4, 3) := by decide +kernel
theorem dX8_nextToken_286 : decode cX8_nextToken 286 = .ok (.iconst 4, 1) := by decide +kernel
theorem dX8_nextToken_287 : decode cX8_nextToken 287 = .ok (.putfield 79, 3) := by decide +kernel
theorem dX8_nextToken_290 : decode cX8_nextToken 290 = .ok (.return_, 1) := by decide +kernel
theorem dX8_must_0 : decode cX8_must 0 = .ok (.aload_n 0, 1) := by decide +kernel
theorem dX8_must_1 : decode cX8_must 1 = .ok (.getfield 89, 3) := by decide +kernel
theorem dX8_must_4 : decode cX8_must 4 = .ok (.ifCond .ne 20, 3) := by decide +kernel
theorem dX8_must_7 : decode cX8_must 7 = .ok (.iload_n 1, 1) := by decide +kernel
theorem dX8_must_8 : decode cX8_must 8 = .ok (.ifCond .ne 16, 3) := by decide +kernel
theorem dX8_must_11 : decode cX8_must 11 = .ok (.aload_n 0, 1) := by decide +kernel
theorem dX8_must_12 : decode cX8_must 12 = .ok (.iload_n 2, 1) := by decide +kernel
theorem dX8_must_13 : decode cX8_must 13 = .ok (.putfield 89, 3) := by decide +kernel
theorem dX8_must_16 : decode cX8_must 16 = .ok (.aload_n 0, 1) := by decide +kernel
theorem dX8_must_17 : decode cX8_must 17 = .ok (.aload_n 0, 1) := by decide +kernel
theorem dX8_must_18 : decode cX8_must 18 = .ok (.getfield 72, 3) := by decide +kernel
theorem dX8_must_21 : decode cX8_must 21 = .ok (.putfield 92, 3) := by decide +kernel
theorem dX8_must_24 : decode cX8_must 24 = .ok (.aload_n 0, 1) := by decide +kernel
theorem dX8_must_25 : decode cX8_must 25 = .ok (.getfield 89, 3) := by decide +kernel
theorem dX8_must_28 : decode cX8_must 28 = .ok (.ifCond .ne 7, 3) := by decide +kernel
theorem dX8_must_31 : decode cX8_must 31 = .ok (.iconst 1, 1) := by decide +kernel
theorem dX8_must_32 : decode cX8_must 32 = .ok (.goto 4, 3) := by decide +kernel
theorem dX8_must_35 : decode cX8_must 35 = .ok (.iconst 0, 1) := by decide +kernel
theorem dX8_must_36 : decode cX8_must 36 = .ok (.ireturn, 1) := by decide +kernel
theorem dX8_isWord_0 : decode cX8_isWord 0 = .ok (.aload_n 0, 1) := by decide +kernel
theorem dX8_isWord_1 : decode cX8_isWord 1 = .ok (.getfield 89, 3) := by decide +kernel
theorem dX8_isWord_4 : decode cX8_isWord 4 = .ok (.ifCond .ne 31, 3) := by decide +kernel
theorem dX8_isWord_7 : decode cX8_isWord 7 = .ok (.aload_n 0, 1) := by decide +kernel
theorem dX8_isWord_8 : decode cX8_isWord 8 = .ok (.getfield 79, 3) := by decide +kernel
theorem dX8_isWord_11 : decode cX8_isWord 11 = .ok (.iconst 1, 1) := by decide +kernel
theorem dX8_isWord_12 : decode cX8_isWord 12 = .ok (.if_icmp .ne 23, 3) := by decide +kernel
theorem dX8_isWord_15 : decode cX8_isWord 15 = .ok (.aload_n 0, 1) := by decide +kernel
theorem dX8_isWord_16 : decode cX8_isWord 16 = .ok (.getfield 69, 3) := by decide +kernel
theorem dX8_isWord_19 : decode cX8_isWord 19 = .ok (.aload_n 0, 1) := by decide +kernel
theorem dX8_isWord_20 : decode cX8_isWord 20 = .ok (.getfield 72, 3) := by decide +kernel
theorem dX8_isWord_23 : decode cX8_isWord 23 = .ok (.isub, 1) := by decide +kernel
theorem dX8_isWord_24 : decode cX8_isWord 24 = .ok (.aload_n 1, 1) := by decide +kernel
theorem dX8_isWord_25 : decode cX8_isWord 25 = .ok (.invokevirtual 95, 3) := by decide +kernel
theorem dX8_isWord_28 : decode cX8_isWord 28 = .ok (.if_icmp .ne 7, 3) := by decide +kernel
theorem dX8_isWord_31 : decode cX8_isWord 31 = .ok (.iconst 1, 1) := by decide +kernel
theorem dX8_isWord_32 : decode cX8_isWord 32 = .ok (.goto 4, 3) := by decide +kernel
theorem dX8_isWord_35 : decode cX8_isWord 35 = .ok (.iconst 0, 1) := by decide +kernel
theorem dX8_isWord_36 : decode cX8_isWord 36 = .ok (.istore_n 2, 1) := by decide +kernel
theorem dX8_isWord_37 : decode cX8_isWord 37 = .ok (.iconst 0, 1) := by decide +kernel
theorem dX8_isWord_38 : decode cX8_isWord 38 = .ok (.istore_n 3, 1) := by decide +kernel
theorem dX8_isWord_39 : decode cX8_isWord 39 = .ok (.iload_n 3, 1) := by decide +kernel
theorem dX8_isWord_40 : decode cX8_isWord 40 = .ok (.aload_n 1, 1) := by decide +kernel
theorem dX8_isWord_41 : decode cX8_isWord 41 = .ok (.invokevirtual 95, 3) := by decide +kernel
theorem dX8_isWord_44 : decode cX8_isWord 44 = .ok (.if_icmp .ge 38, 3) := by decide +kernel
theorem dX8_isWord_47 : decode cX8_isWord 47 = .ok (.iload_n 2, 1) := by decide +kernel
theorem dX8_isWord_48 : decode cX8_isWord 48 = .ok (.ifCond .eq 34, 3) := by decide +kernel
theorem dX8_isWord_51 : decode cX8_isWord 51 = .ok (.aload_n 0, 1) := by decide +kernel
theorem dX8_isWord_52 : decode cX8_isWord 52 = .ok (.getfield 7, 3) := by decide +kernel
theorem dX8_isWord_55 : decode cX8_isWord 55 = .ok (.aload_n 0, 1) := by decide +kernel
theorem dX8_isWord_56 : decode cX8_isWord 56 = .ok (.getfield 72, 3) := by decide +kernel
theorem dX8_isWord_59 : decode cX8_isWord 59 = .ok (.iload_n 3, 1) := by decide +kernel
theorem dX8_isWord_60 : decode cX8_isWord 60 = .ok (.iadd, 1) := by decide +kernel
theorem dX8_isWord_61 : decode cX8_isWord 61 = .ok (.baload, 1) := by decide +kernel
theorem dX8_isWord_62 : decode cX8_isWord 62 = .ok (.aload_n 1, 1) := by decide +kernel
theorem dX8_isWord_63 : decode cX8_isWord 63 = .ok (.iload_n 3, 1) := by decide +kernel
theorem dX8_isWord_64 : decode cX8_isWord 64 = .ok (.invokevirtual 100, 3) := by decide +kernel
theorem dX8_isWord_67 : decode cX8_isWord 67 = .ok (.if_icmp .ne 7, 3) := by decide +kernel
theorem dX8_isWord_70 : decode cX8_isWord 70 = .ok (.iconst 1, 1) := by decide +kernel
theorem dX8_isWord_71 : decode cX8_isWord 71 = .ok (.goto 4, 3) := by decide +kernel
theorem dX8_isWord_74 : decode cX8_isWord 74 = .ok (.iconst 0, 1) := by decide +kernel
theorem dX8_isWord_75 : decode cX8_isWord 75 = .ok (.istore_n 2, 1) := by decide +kernel
theorem dX8_isWord_76 : decode cX8_isWord 76 = .ok (.iinc 3 1, 3) := by decide +kernel
theorem dX8_isWord_79 : decode cX8_isWord 79 = .ok (.goto (-40), 3) := by decide +kernel
theorem dX8_isWord_82 : decode cX8_isWord 82 = .ok (.iload_n 2, 1) := by decide +kernel
theorem dX8_isWord_83 : decode cX8_isWord 83 = .ok (.ireturn, 1) := by decide +kernel
theorem dX8_goOn_0 : decode cX8_goOn 0 = .ok (.aload_n 0, 1) := by decide +kernel
theorem dX8_goOn_1 : decode cX8_goOn 1 = .ok (.getfield 89, 3) := by decide +kernel
theorem dX8_goOn_4 : decode cX8_goOn 4 = .ok (.ifCond .ne 7, 3) := by decide +kernel
theorem dX8_goOn_7 : decode cX8_goOn 7 = .ok (.aload_n 0, 1) := by decide +kernel
theorem dX8_goOn_8 : decode cX8_goOn 8 = .ok (.invokevirtual 104, 3) := by decide +kernel
theorem dX8_goOn_11 : decode cX8_goOn 11 = .ok (.return_, 1) := by decide +kernel
theorem dX8_read_0 : decode cX8_read 0 = .ok (.aload_n 0, 1) := by decide +kernel
theorem dX8_read_1 : decode cX8_read 1 = .ok (.aload_n 0, 1) := by decide +kernel
theorem dX8_read_2 : decode cX8_read 2 = .ok (.getfield 79, 3) := by decide +kernel
theorem dX8_read_5 : decode cX8_read 5 = .ok (.iconst 2, 1) := by decide +kernel
theorem dX8_read_6 : decode cX8_read 6 = .ok (.if_icmp .ne 7, 3) := by decide +kernel
theorem dX8_read_9 : decode cX8_read 9 = .ok (.iconst 1, 1) := by decide +kernel
theorem dX8_read_10 : decode cX8_read 10 = .ok (.goto 4, 3) := by decide +kernel
theorem dX8_read_13 : decode cX8_read 13 = .ok (.iconst 0, 1) := by decide +kernel
theorem dX8_read_14 : decode cX8_read 14 = .ok (.iconst 1, 1) := by decide +kernel
theorem dX8_read_15 : decode cX8_read 15 = .ok (.invokevirtual 107, 3) := by decide +kernel
theorem dX8_read_18 : decode cX8_read 18 = .ok (.ifCond .eq 27, 3) := by decide +kernel
theorem dX8_read_21 : decode cX8_read 21 = .ok (.aload_n 0, 1) := by decide +kernel
theorem dX8_read_22 : decode cX8_read 22 = .ok (.aload_n 0, 1) := by decide +kernel
theorem dX8_read_23 : decode cX8_read 23 = .ok (.getfield 86, 3) := by decide +kernel
theorem dX8_read_26 : decode cX8_read 26 = .ok (.iload_n 1, 1) := by decide +kernel
theorem dX8_read_27 : decode cX8_read 27 = .ok (.iload_n 2, 1) := by decide +kernel
theorem dX8_read_28 : decode cX8_read 28 = .ok (.invokestatic 82, 3) := by decide +kernel
theorem dX8_read_31 : decode cX8_read 31 = .ok (.iconst 4, 1) := by decide +kernel
theorem dX8_read_32 : decode cX8_read 32 = .ok (.invokevirtual 107, 3) := by decide +kernel
theorem dX8_read_35 : decode cX8_read 35 = .ok (.ifCond .eq 10, 3) := by decide +kernel
theorem dX8_read_38 : decode cX8_read 38 = .ok (.aload_n 0, 1) := by decide +kernel
theorem dX8_read_39 : decode cX8_read 39 = .ok (.getfield 86, 3) := by decide +kernel
theorem dX8_read_42 : decode cX8_read 42 = .ok (.goto 4, 3) := by decide +kernel
theorem dX8_read_45 : decode cX8_read 45 = .ok (.iload_n 1, 1) := by decide +kernel
theorem dX8_read_46 : decode cX8_read 46 = .ok (.istore_n 3, 1) := by decide +kernel
theorem dX8_read_47 : decode cX8_read 47 = .ok (.aload_n 0, 1) := by decide +kernel
theorem dX8_read_48 : decode cX8_read 48 = .ok (.invokevirtual 111, 3) := by decide +kernel
theorem dX8_read_51 : decode cX8_read 51 = .ok (.iload_n 3, 1) := by decide +kernel
theorem dX8_read_52 : decode cX8_read 52 = .ok (.ireturn, 1) := by decide +kernel
theorem dX8_setDefaults_0 : decode cX8_setDefaults 0 = .ok (.iconst 0, 1) := by decide +kernel
theorem dX8_setDefaults_1 : decode cX8_setDefaults 1 = .ok (.istore_n 1, 1) := by decide +kernel
theorem dX8_setDefaults_2 : decode cX8_setDefaults 2 = .ok (.iload_n 1, 1) := by decide +kernel
theorem dX8_setDefaults_3 : decode cX8_setDefaults 3 = .ok (.bipush 107, 2) := by decide +kernel
theorem dX8_setDefaults_5 : decode cX8_setDefaults 5 = .ok (.if_icmp .ge 16, 3) := by decide +kernel
theorem dX8_setDefaults_8 : decode cX8_setDefaults 8 = .ok (.aload_n 0, 1) := by decide +kernel
theorem dX8_setDefaults_9 : decode cX8_setDefaults 9 = .ok (.getfield 13, 3) := by decide +kernel
theorem dX8_setDefaults_12 : decode cX8_setDefaults 12 = .ok (.iload_n 1, 1) := by decide +kernel
theorem dX8_setDefaults_13 : decode cX8_setDefaults 13 = .ok (.iconst 0, 1) := by decide +kernel
theorem dX8_setDefaults_14 : decode cX8_setDefaults 14 = .ok (.iastore, 1) := by decide +kernel
theorem dX8_setDefaults_15 : decode cX8_setDefaults 15 = .ok (.iinc 1 1, 3) := by decide +kernel
theorem dX8_setDefaults_18 : decode cX8_setDefaults 18 = .ok (.goto (-16), 3) := by decide +kernel
theorem dX8_setDefaults_21 : decode cX8_setDefaults 21 = .ok (.aload_n 0, 1) := by decide +kernel
theorem dX8_setDefaults_22 : decode cX8_setDefaults 22 = .ok (.getfield 13, 3) := by decide +kernel
theorem dX8_setDefaults_25 : decode cX8_setDefaults 25 = .ok (.iconst 3, 1) := by decide +kernel
theorem dX8_setDefaults_26 : decode cX8_setDefaults 26 = .ok (.iconst 1, 1) := by decide +kernel
theorem dX8_setDefaults_27 : decode cX8_setDefaults 27 = .ok (.iastore, 1) := by decide +kernel
theorem dX8_setDefaults_28 : decode cX8_setDefaults 28 = .ok (.aload_n 0, 1) := by decide +kernel
theorem dX8_setDefaults_29 : decode cX8_setDefaults 29 = .ok (.getfield 13, 3) := by decide +kernel
theorem dX8_setDefaults_32 : decode cX8_setDefaults 32 = .ok (.iconst 4, 1) := by decide +kernel
theorem dX8_setDefaults_33 : decode cX8_setDefaults 33 = .ok (.iconst 1, 1) := by decide +kernel
theorem dX8_setDefaults_34 : decode cX8_setDefaults 34 = .ok (.iastore, 1) := by decide +kernel
theorem dX8_setDefaults_35 : decode cX8_setDefaults 35 = .ok (.aload_n 0, 1) := by decide +kernel
theorem dX8_setDefaults_36 : decode cX8_setDefaults 36 = .ok (.getfield 13, 3) := by decide +kernel
theorem dX8_setDefaults_39 : decode cX8_setDefaults 39 = .ok (.iconst 5, 1) := by decide +kernel
theorem dX8_setDefaults_40 : decode cX8_setDefaults 40 = .ok (.bipush 10, 2) := by decide +kernel
theorem dX8_setDefaults_42 : decode cX8_setDefaults 42 = .ok (.iastore, 1) := by decide +kernel
theorem dX8_setDefaults_43 : decode cX8_setDefaults 43 = .ok (.aload_n 0, 1) := by decide +kernel
theorem dX8_setDefaults_44 : decode cX8_setDefaults 44 = .ok (.getfield 13, 3) := by decide +kernel
theorem dX8_setDefaults_47 : decode cX8_setDefaults 47 = .ok (.bipush 6, 2) := by decide +kernel
theorem dX8_setDefaults_49 : decode cX8_setDefaults 49 = .ok (.iconst 5, 1) := by decide +kernel
theorem dX8_setDefaults_50 : decode cX8_setDefaults 50 = .ok (.iastore, 1) := by decide +kernel
theorem dX8_setDefaults_51 : decode cX8_setDefaults 51 = .ok (.aload_n 0, 1) := by decide +kernel
theorem dX8_setDefaults_52 : decode cX8_setDefaults 52 = .ok (.iconst 0, 1) := by decide +kernel
theorem dX8_setDefaults_53 : decode cX8_setDefaults 53 = .ok (.putfield 114, 3) := by decide +kernel
theorem dX8_setDefaults_56 : decode cX8_setDefaults 56 = .ok (.return_, 1) := by decide +kernel
theorem dX8_nameAt_0 : decode cX8_nameAt 0 = .ok (.bipush 96, 2) := by decide +kernel
theorem dX8_nameAt_2 : decode cX8_nameAt 2 = .ok (.iload_n 0, 1) := by decide +kernel
theorem dX8_nameAt_3 : decode cX8_nameAt 3 = .ok (.imul, 1) := by decide +kernel
theorem dX8_nameAt_4 : decode cX8_nameAt 4 = .ok (.bipush 8, 2) := by decide +kernel
theorem dX8_nameAt_6 : decode cX8_nameAt 6 = .ok (.iload_n 1, 1) := by decide +kernel
theorem dX8_nameAt_7 : decode cX8_nameAt 7 = .ok (.imul, 1) := by decide +kernel
theorem dX8_nameAt_8 : decode cX8_nameAt 8 = .ok (.iadd, 1) := by decide +kernel
theorem dX8_nameAt_9 : decode cX8_nameAt 9 = .ok (.ireturn, 1) := by decide +kernel
theorem dX8_draftFind_0 : decode cX8_draftFind 0 = .ok (.aload_n 0, 1) := by decide +kernel
theorem dX8_draftFind_1 : decode cX8_draftFind 1 = .ok (.getfield 69, 3) := by decide +kernel
theorem dX8_draftFind_4 : decode cX8_draftFind 4 = .ok (.aload_n 0, 1) := by decide +kernel
theorem dX8_draftFind_5 : decode cX8_draftFind 5 = .ok (.getfield 72, 3) := by decide +kernel
theorem dX8_draftFind_8 : decode cX8_draftFind 8 = .ok (.isub, 1) := by decide +kernel
theorem dX8_draftFind_9 : decode cX8_draftFind 9 = .ok (.istore_n 2, 1) := by decide +kernel
theorem dX8_draftFind_10 : decode cX8_draftFind 10 = .ok (.iconst 0, 1) := by decide +kernel
theorem dX8_draftFind_11 : decode cX8_draftFind 11 = .ok (.istore_n 3, 1) := by decide +kernel
theorem dX8_draftFind_12 : decode cX8_draftFind 12 = .ok (.iload_n 3, 1) := by decide +kernel
theorem dX8_draftFind_13 : decode cX8_draftFind 13 = .ok (.aload_n 0, 1) := by decide +kernel
theorem dX8_draftFind_14 : decode cX8_draftFind 14 = .ok (.getfield 13, 3) := by decide +kernel
theorem dX8_draftFind_17 : decode cX8_draftFind 17 = .ok (.iload_n 1, 1) := by decide +kernel
theorem dX8_draftFind_18 : decode cX8_draftFind 18 = .ok (.iaload, 1) := by decide +kernel
theorem dX8_draftFind_19 : decode cX8_draftFind 19 = .ok (.if_icmp .ge 85, 3) := by decide +kernel
theorem dX8_draftFind_22 : decode cX8_draftFind 22 = .ok (.iconst 1, 1) := by decide +kernel
theorem dX8_draftFind_23 : decode cX8_draftFind 23 = .ok (.istore 4, 2) := by decide +kernel
theorem dX8_draftFind_25 : decode cX8_draftFind 25 = .ok (.iconst 0, 1) := by decide +kernel
theorem dX8_draftFind_26 : decode cX8_draftFind 26 = .ok (.istore 5, 2) := by decide +kernel
theorem dX8_draftFind_28 : decode cX8_draftFind 28 = .ok (.iload 5, 2) := by decide +kernel
theorem dX8_draftFind_30 : decode cX8_draftFind 30 = .ok (.bipush 8, 2) := by decide +kernel
theorem dX8_draftFind_32 : decode cX8_draftFind 32 = .ok (.if_icmp .ge 59, 3) := by decide +kernel
theorem dX8_draftFind_35 : decode cX8_draftFind 35 = .ok (.iload 4, 2) := by decide +kernel
theorem dX8_draftFind_37 : decode cX8_draftFind 37 = .ok (.ifCond .eq 45, 3) := by decide +kernel
theorem dX8_draftFind_40 : decode cX8_draftFind 40 = .ok (.aload_n 0, 1) := by decide +kernel
theorem dX8_draftFind_41 : decode cX8_draftFind 41 = .ok (.getfield 20, 3) := by decide +kernel
theorem dX8_draftFind_44 : decode cX8_draftFind 44 = .ok (.iload_n 1, 1) := by decide +kernel
theorem dX8_draftFind_45 : decode cX8_draftFind 45 = .ok (.iload_n 3, 1) := by decide +kernel
theorem dX8_draftFind_46 : decode cX8_draftFind 46 = .ok (.invokestatic 118, 3) := by decide +kernel
theorem dX8_draftFind_49 : decode cX8_draftFind 49 = .ok (.iload 5, 2) := by decide +kernel
theorem dX8_draftFind_51 : decode cX8_draftFind 51 = .ok (.iadd, 1) := by decide +kernel
theorem dX8_draftFind_52 : decode cX8_draftFind 52 = .ok (.baload, 1) := by decide +kernel
theorem dX8_draftFind_53 : decode cX8_draftFind 53 = .ok (.iload 5, 2) := by decide +kernel
theorem dX8_draftFind_55 : decode cX8_draftFind 55 = .ok (.iload_n 2, 1) := by decide +kernel
theorem dX8_draftFind_56 : decode cX8_draftFind 56 = .ok (.if_icmp .ge 18, 3) := by decide +kernel
theorem dX8_draftFind_59 : decode cX8_draftFind 59 = .ok (.aload_n 0, 1) := by decide +kernel
theorem dX8_draftFind_60 : decode cX8_draftFind 60 = .ok (.getfield 7, 3) := by decide +kernel
theorem dX8_draftFind_63 : decode cX8_draftFind 63 = .ok (.aload_n 0, 1) := by decide +kernel
theorem dX8_draftFind_64 : decode cX8_draftFind 64 = .ok (.getfield 72, 3) := by decide +kernel
theorem dX8_draftFind_67 : decode cX8_draftFind 67 = .ok (.iload 5, 2) := by decide +kernel
theorem dX8_draftFind_69 : decode cX8_draftFind 69 = .ok (.iadd, 1) := by decide +kernel
theorem dX8_draftFind_70 : decode cX8_draftFind 70 = .ok (.baload, 1) := by decide +kernel
theorem dX8_draftFind_71 : decode cX8_draftFind 71 = .ok (.goto 4, 3) := by decide +kernel
theorem dX8_draftFind_74 : decode cX8_draftFind 74 = .ok (.iconst 0, 1) := by decide +kernel
theorem dX8_draftFind_75 : decode cX8_draftFind 75 = .ok (.if_icmp .ne 7, 3) := by decide +kernel
theorem dX8_draftFind_78 : decode cX8_draftFind 78 = .ok (.iconst 1, 1) := by decide +kernel
theorem dX8_draftFind_79 : decode cX8_draftFind 79 = .ok (.goto 4, 3) := by decide +kernel
theorem dX8_draftFind_82 : decode cX8_draftFind 82 = .ok (.iconst 0, 1) := by decide +kernel
theorem dX8_draftFind_83 : decode cX8_draftFind 83 = .ok (.istore 4, 2) := by decide +kernel
theorem dX8_draftFind_85 : decode cX8_draftFind 85 = .ok (.iinc 5 1, 3) := by decide +kernel
theorem dX8_draftFind_88 : decode cX8_draftFind 88 = .ok (.goto (-60), 3) := by decide +kernel
theorem dX8_draftFind_91 : decode cX8_draftFind 91 = .ok (.iload 4, 2) := by decide +kernel
theorem dX8_draftFind_93 : decode cX8_draftFind 93 = .ok (.ifCond .eq 5, 3) := by decide +kernel
theorem dX8_draftFind_96 : decode cX8_draftFind 96 = .ok (.iload_n 3, 1) := by decide +kernel
theorem dX8_draftFind_97 : decode cX8_draftFind 97 = .ok (.ireturn, 1) := by decide +kernel
theorem dX8_draftFind_98 : decode cX8_draftFind 98 = .ok (.iinc 3 1, 3) := by decide +kernel
theorem dX8_draftFind_101 : decode cX8_draftFind 101 = .ok (.goto (-89), 3) := by decide +kernel
theorem dX8_draftFind_104 : decode cX8_draftFind 104 = .ok (.iconst (-1), 1) := by decide +kernel
theorem dX8_draftFind_105 : decode cX8_draftFind 105 = .ok (.ireturn, 1) := by decide +kernel
theorem dX8_deviceHere_0 : decode cX8_deviceHere 0 = .ok (.aload_n 0, 1) := by decide +kernel
theorem dX8_deviceHere_1 : decode cX8_deviceHere 1 = .ok (.aload_n 0, 1) := by decide +kernel
theorem dX8_deviceHere_2 : decode cX8_deviceHere 2 = .ok (.getfield 79, 3) := by decide +kernel
theorem dX8_deviceHere_5 : decode cX8_deviceHere 5 = .ok (.iconst 1, 1) := by decide +kernel
theorem dX8_deviceHere_6 : decode cX8_deviceHere 6 = .ok (.if_icmp .ne 7, 3) := by decide +kernel
theorem dX8_deviceHere_9 : decode cX8_deviceHere 9 = .ok (.iconst 1, 1) := by decide +kernel
theorem dX8_deviceHere_10 : decode cX8_deviceHere 10 = .ok (.goto 4, 3) := by decide +kernel
theorem dX8_deviceHere_13 : decode cX8_deviceHere 13 = .ok (.iconst 0, 1) := by decide +kernel
theorem dX8_deviceHere_14 : decode cX8_deviceHere 14 = .ok (.iconst 1, 1) := by decide +kernel
theorem dX8_deviceHere_15 : decode cX8_deviceHere 15 = .ok (.invokevirtual 107, 3) := by decide +kernel
theorem dX8_deviceHere_18 : decode cX8_deviceHere 18 = .ok (.ifCond .ne 5, 3) := by decide +kernel
theorem dX8_deviceHere_21 : decode cX8_deviceHere 21 = .ok (.iconst 0, 1) := by decide +kernel
theorem dX8_deviceHere_22 : decode cX8_deviceHere 22 = .ok (.ireturn, 1) := by decide +kernel
theorem dX8_deviceHere_23 : decode cX8_deviceHere 23 = .ok (.aload_n 0, 1) := by decide +kernel
theorem dX8_deviceHere_24 : decode cX8_deviceHere 24 = .ok (.iconst 1, 1) := by decide +kernel
theorem dX8_deviceHere_25 : decode cX8_deviceHere 25 = .ok (.invokevirtual 122, 3) := by decide +kernel
theorem dX8_deviceHere_28 : decode cX8_deviceHere 28 = .ok (.istore_n 1, 1) := by decide +kernel
theorem dX8_deviceHere_29 : decode cX8_deviceHere 29 = .ok (.aload_n 0, 1) := by decide +kernel
theorem dX8_deviceHere_30 : decode cX8_deviceHere 30 = .ok (.iload_n 1, 1) := by decide +kernel
theorem dX8_deviceHere_31 : decode cX8_deviceHere 31 = .ok (.iconst (-1), 1) := by decide +kernel
theorem dX8_deviceHere_32 : decode cX8_deviceHere 32 = .ok (.if_icmp .eq 7, 3) := by decide +kernel
theorem dX8_deviceHere_35 : decode cX8_deviceHere 35 = .ok (.iconst 1, 1) := by decide +kernel
theorem dX8_deviceHere_36 : decode cX8_deviceHere 36 = .ok (.goto 4, 3) := by decide +kernel
theorem dX8_deviceHere_39 : decode cX8_deviceHere 39 = .ok (.iconst 0, 1) := by decide +kernel
theorem dX8_deviceHere_40 : decode cX8_deviceHere 40 = .ok (.iconst 2, 1) := by decide +kernel
theorem dX8_deviceHere_41 : decode cX8_deviceHere 41 = .ok (.invokevirtual 107, 3) := by decide +kernel
theorem dX8_deviceHere_44 : decode cX8_deviceHere 44 = .ok (.ifCond .ne 5, 3) := by decide +kernel
theorem dX8_deviceHere_47 : decode cX8_deviceHere 47 = .ok (.iconst 0, 1) := by decide +kernel
theorem dX8_deviceHere_48 : decode cX8_deviceHere 48 = .ok (.ireturn, 1) := by decide +kernel
theorem dX8_deviceHere_49 : decode cX8_deviceHere 49 = .ok (.aload_n 0, 1) := by decide +kernel
theorem dX8_deviceHere_50 : decode cX8_deviceHere 50 = .ok (.invokevirtual 111, 3) := by decide +kernel
theorem dX8_deviceHere_53 : decode cX8_deviceHere 53 = .ok (.iload_n 1, 1) := by decide +kernel
theorem dX8_deviceHere_54 : decode cX8_deviceHere 54 = .ok (.ireturn, 1) := by decide +kernel
theorem dX8_begin_0 : decode cX8_begin 0 = .ok (.aload_n 0, 1) := by decide +kernel
theorem dX8_begin_1 : decode cX8_begin 1 = .ok (.aload_n 0, 1) := by decide +kernel
theorem dX8_begin_2 : decode cX8_begin 2 = .ok (.getfield 13, 3) := by decide +kernel
theorem dX8_begin_5 : decode cX8_begin 5 = .ok (.iload_n 1, 1) := by decide +kernel
theorem dX8_begin_6 : decode cX8_begin 6 = .ok (.iaload, 1) := by decide +kernel
theorem dX8_begin_7 : decode cX8_begin 7 = .ok (.iload_n 2, 1) := by decide +kernel
theorem dX8_begin_8 : decode cX8_begin 8 = .ok (.if_icmp .ge 7, 3) := by decide +kernel
theorem dX8_begin_11 : decode cX8_begin 11 = .ok (.iconst 1, 1) := by decide +kernel
theorem dX8_begin_12 : decode cX8_begin 12 = .ok (.goto 4, 3) := by decide +kernel
theorem dX8_begin_15 : decode cX8_begin 15 = .ok (.iconst 0, 1) := by decide +kernel
theorem dX8_begin_16 : decode cX8_begin 16 = .ok (.iconst 5, 1) := by decide +kernel
theorem dX8_begin_17 : decode cX8_begin 17 = .ok (.invokevirtual 107, 3) := by decide +kernel
theorem dX8_begin_20 : decode cX8_begin 20 = .ok (.ifCond .ne 5, 3) := by decide +kernel
theorem dX8_begin_23 : decode cX8_begin 23 = .ok (.iconst 0, 1) := by decide +kernel
theorem dX8_begin_24 : decode cX8_begin 24 = .ok (.ireturn, 1) := by decide +kernel
theorem dX8_begin_25 : decode cX8_begin 25 = .ok (.aload_n 0, 1) := by decide +kernel
theorem dX8_begin_26 : decode cX8_begin 26 = .ok (.invokevirtual 111, 3) := by decide +kernel
theorem dX8_begin_29 : decode cX8_begin 29 = .ok (.aload_n 0, 1) := by decide +kernel
theorem dX8_begin_30 : decode cX8_begin 30 = .ok (.aload_n 0, 1) := by decide +kernel
theorem dX8_begin_31 : decode cX8_begin 31 = .ok (.getfield 79, 3) := by decide +kernel
theorem dX8_begin_34 : decode cX8_begin 34 = .ok (.iconst 1, 1) := by decide +kernel
theorem dX8_begin_35 : decode cX8_begin 35 = .ok (.if_icmp .ne 7, 3) := by decide +kernel
theorem dX8_begin_38 : decode cX8_begin 38 = .ok (.iconst 1, 1) := by decide +kernel
theorem dX8_begin_39 : decode cX8_begin 39 = .ok (.goto 4, 3) := by decide +kernel
theorem dX8_begin_42 : decode cX8_begin 42 = .ok (.iconst 0, 1) := by decide +kernel
theorem dX8_begin_43 : decode cX8_begin 43 = .ok (.iconst 1, 1) := by decide +kernel
theorem dX8_begin_44 : decode cX8_begin 44 = .ok (.invokevirtual 107, 3) := by decide +kernel
theorem dX8_begin_47 : decode cX8_begin 47 = .ok (.ifCond .eq 25, 3) := by decide +kernel
theorem dX8_begin_50 : decode cX8_begin 50 = .ok (.aload_n 0, 1) := by decide +kernel
theorem dX8_begin_51 : decode cX8_begin 51 = .ok (.aload_n 0, 1) := by decide +kernel
theorem dX8_begin_52 : decode cX8_begin 52 = .ok (.iload_n 1, 1) := by decide +kernel
theorem dX8_begin_53 : decode cX8_begin 53 = .ok (.invokevirtual 122, 3) := by decide +kernel
theorem dX8_begin_56 : decode cX8_begin 56 = .ok (.iconst (-1), 1) := by decide +kernel
theorem dX8_begin_57 : decode cX8_begin 57 = .ok (.if_icmp .ne 7, 3) := by decide +kernel
theorem dX8_begin_60 : decode cX8_begin 60 = .ok (.iconst 1, 1) := by decide +kernel
theorem dX8_begin_61 : decode cX8_begin 61 = .ok (.goto 4, 3) := by decide +kernel
theorem dX8_begin_64 : decode cX8_begin 64 = .ok (.iconst 0, 1) := by decide +kernel
theorem dX8_begin_65 : decode cX8_begin 65 = .ok (.iconst 3, 1) := by decide +kernel
theorem dX8_begin_66 : decode cX8_begin 66 = .ok (.invokevirtual 107, 3) := by decide +kernel
theorem dX8_begin_69 : decode cX8_begin 69 = .ok (.ifCond .ne 5, 3) := by decide +kernel
theorem dX8_begin_72 : decode cX8_begin 72 = .ok (.iconst 0, 1) := by decide +kernel
theorem dX8_begin_73 : decode cX8_begin 73 = .ok (.ireturn, 1) := by decide +kernel
theorem dX8_begin_74 : decode cX8_begin 74 = .ok (.aload_n 0, 1) := by decide +kernel
theorem dX8_begin_75 : decode cX8_begin 75 = .ok (.getfield 69, 3) := by decide +kernel
theorem dX8_begin_78 : decode cX8_begin 78 = .ok (.aload_n 0, 1) := by decide +kernel
theorem dX8_begin_79 : decode cX8_begin 79 = .ok (.getfield 72, 3) := by decide +kernel
theorem dX8_begin_82 : decode cX8_begin 82 = .ok (.isub, 1) := by decide +kernel
theorem dX8_begin_83 : decode cX8_begin 83 = .ok (.istore_n 3, 1) := by decide +kernel
theorem dX8_begin_84 : decode cX8_begin 84 = .ok (.iconst 0, 1) := by decide +kernel
theorem dX8_begin_85 : decode cX8_begin 85 = .ok (.istore 4, 2) := by decide +kernel
theorem dX8_begin_87 : decode cX8_begin 87 = .ok (.iload 4, 2) := by decide +kernel
theorem dX8_begin_89 : decode cX8_begin 89 = .ok (.bipush 8, 2) := by decide +kernel
theorem dX8_begin_91 : decode cX8_begin 91 = .ok (.if_icmp .ge 49, 3) := by decide +kernel
theorem dX8_begin_94 : decode cX8_begin 94 = .ok (.aload_n 0, 1) := by decide +kernel
theorem dX8_begin_95 : decode cX8_begin 95 = .ok (.getfield 20, 3) := by decide +kernel
theorem dX8_begin_98 : decode cX8_begin 98 = .ok (.iload_n 1, 1) := by decide +kernel
theorem dX8_begin_99 : decode cX8_begin 99 = .ok (.aload_n 0, 1) := by decide +kernel
theorem dX8_begin_100 : decode cX8_begin 100 = .ok (.getfield 13, 3) := by decide +kernel
theorem dX8_begin_103 : decode cX8_begin 103 = .ok (.iload_n 1, 1) := by decide +kernel
theorem dX8_begin_104 : decode cX8_begin 104 = .ok (.iaload, 1) := by decide +kernel
theorem dX8_begin_105 : decode cX8_begin 105 = .ok (.invokestatic 118, 3) := by decide +kernel
theorem dX8_begin_108 : decode cX8_begin 108 = .ok (.iload 4, 2) := by decide +kernel
theorem dX8_begin_110 : decode cX8_begin 110 = .ok (.iadd, 1) := by decide +kernel
theorem dX8_begin_111 : decode cX8_begin 111 = .ok (.iload 4, 2) := by decide +kernel
theorem dX8_begin_113 : decode cX8_begin 113 = .ok (.iload_n 3, 1) := by decide +kernel
theorem dX8_begin_114 : decode cX8_begin 114 = .ok (.if_icmp .ge 18, 3) := by decide +kernel
theorem dX8_begin_117 : decode cX8_begin 117 = .ok (.aload_n 0, 1) := by decide +kernel
theorem dX8_begin_118 : decode cX8_begin 118 = .ok (.getfield 7, 3) := by decide +kernel
theorem dX8_begin_121 : decode cX8_begin 121 = .ok (.aload_n 0, 1) := by decide +kernel
theorem dX8_begin_122 : decode cX8_begin 122 = .ok (.getfield 72, 3) := by decide +kernel
theorem dX8_begin_125 : decode cX8_begin 125 = .ok (.iload 4, 2) := by decide +kernel
theorem dX8_begin_127 : decode cX8_begin 127 = .ok (.iadd, 1) := by decide +kernel
theorem dX8_begin_128 : decode cX8_begin 128 = .ok (.baload, 1) := by decide +kernel
theorem dX8_begin_129 : decode cX8_begin 129 = .ok (.goto 4, 3) := by decide +kernel
theorem dX8_begin_132 : decode cX8_begin 132 = .ok (.iconst 0, 1) := by decide +kernel
theorem dX8_begin_133 : decode cX8_begin 133 = .ok (.bastore, 1) := by decide +kernel
theorem dX8_begin_134 : decode cX8_begin 134 = .ok (.iinc 4 1, 3) := by decide +kernel
theorem dX8_begin_137 : decode cX8_begin 137 = .ok (.goto (-50), 3) := by decide +kernel
theorem dX8_begin_140 : decode cX8_begin 140 = .ok (.aload_n 0, 1) := by decide +kernel
theorem dX8_begin_141 : decode cX8_begin 141 = .ok (.invokevirtual 111, 3) := by decide +kernel
theorem dX8_begin_144 : decode cX8_begin 144 = .ok (.iconst 1, 1) := by decide +kernel
theorem dX8_begin_145 : decode cX8_begin 145 = .ok (.ireturn, 1) := by decide +kernel
theorem dX8_kindHere_0 : decode cX8_kindHere 0 = .ok (.aload_n 0, 1) := by decide +kernel
theorem dX8_kindHere_1 : decode cX8_kindHere 1 = .ok (.ldc 125, 2) := by decide +kernel
theorem dX8_kindHere_3 : decode cX8_kindHere 3 = .ok (.invokevirtual 127, 3) := by decide +kernel
theorem dX8_kindHere_6 : decode cX8_kindHere 6 = .ok (.ifCond .eq 7, 3) := by decide +kernel
theorem dX8_kindHere_9 : decode cX8_kindHere 9 = .ok (.iconst 0, 1) := by decide +kernel
theorem dX8_kindHere_10 : decode cX8_kindHere 10 = .ok (.goto 43, 3) := by decide +kernel
theorem dX8_kindHere_13 : decode cX8_kindHere 13 = .ok (.aload_n 0, 1) := by decide +kernel
theorem dX8_kindHere_14 : decode cX8_kindHere 14 = .ok (.ldc 131, 2) := by decide +kernel
theorem dX8_kindHere_16 : decode cX8_kindHere 16 = .ok (.invokevirtual 127, 3) := by decide +kernel
theorem dX8_kindHere_19 : decode cX8_kindHere 19 = .ok (.ifCond .eq 7, 3) := by decide +kernel
theorem dX8_kindHere_22 : decode cX8_kindHere 22 = .ok (.iconst 1, 1) := by decide +kernel
theorem dX8_kindHere_23 : decode cX8_kindHere 23 = .ok (.goto 30, 3) := by decide +kernel
theorem dX8_kindHere_26 : decode cX8_kindHere 26 = .ok (.aload_n 0, 1) := by decide +kernel
theorem dX8_kindHere_27 : decode cX8_kindHere 27 = .ok (.ldc 133, 2) := by decide +kernel
theorem dX8_kindHere_29 : decode cX8_kindHere 29 = .ok (.invokevirtual 127, 3) := by decide +kernel
theorem dX8_kindHere_32 : decode cX8_kindHere 32 = .ok (.ifCond .eq 7, 3) := by decide +kernel
theorem dX8_kindHere_35 : decode cX8_kindHere 35 = .ok (.iconst 2, 1) := by decide +kernel
theorem dX8_kindHere_36 : decode cX8_kindHere 36 = .ok (.goto 17, 3) := by decide +kernel
theorem dX8_kindHere_39 : decode cX8_kindHere 39 = .ok (.aload_n 0, 1) := by decide +kernel
theorem dX8_kindHere_40 : decode cX8_kindHere 40 = .ok (.ldc 135, 2) := by decide +kernel
theorem dX8_kindHere_42 : decode cX8_kindHere 42 = .ok (.invokevirtual 127, 3) := by decide +kernel
theorem dX8_kindHere_45 : decode cX8_kindHere 45 = .ok (.ifCond .eq 7, 3) := by decide +kernel
theorem dX8_kindHere_48 : decode cX8_kindHere 48 = .ok (.iconst 3, 1) := by decide +kernel
theorem dX8_kindHere_49 : decode cX8_kindHere 49 = .ok (.goto 4, 3) := by decide +kernel
theorem dX8_kindHere_52 : decode cX8_kindHere 52 = .ok (.iconst (-1), 1) := by decide +kernel
theorem dX8_kindHere_53 : decode cX8_kindHere 53 = .ok (.ireturn, 1) := by decide +kernel
theorem dX8_patternLine_0 : decode cX8_patternLine 0 = .ok (.aload_n 0, 1) := by decide +kernel
theorem dX8_patternLine_1 : decode cX8_patternLine 1 = .ok (.iconst 0, 1) := by decide +kernel
theorem dX8_patternLine_2 : decode cX8_patternLine 2 = .ok (.bipush 6, 2) := by decide +kernel
theorem dX8_patternLine_4 : decode cX8_patternLine 4 = .ok (.invokevirtual 137, 3) := by decide +kernel
theorem dX8_patternLine_7 : decode cX8_patternLine 7 = .ok (.ifCond .ne 4, 3) := by decide +kernel
theorem dX8_patternLine_10 : decode cX8_patternLine 10 = .ok (.return_, 1) := by decide +kernel
theorem dX8_patternLine_11 : decode cX8_patternLine 11 = .ok (.bipush 7, 2) := by decide +kernel
theorem dX8_patternLine_13 : decode cX8_patternLine 13 = .ok (.bipush 8, 2) := by decide +kernel
theorem dX8_patternLine_15 : decode cX8_patternLine 15 = .ok (.aload_n 0, 1) := by decide +kernel
theorem dX8_patternLine_16 : decode cX8_patternLine 16 = .ok (.getfield 13, 3) := by decide +kernel
theorem dX8_patternLine_19 : decode cX8_patternLine 19 = .ok (.iconst 0, 1) := by decide +kernel
theorem dX8_patternLine_20 : decode cX8_patternLine 20 = .ok (.iaload, 1) := by decide +kernel
theorem dX8_patternLine_21 : decode cX8_patternLine 21 = .ok (.imul, 1) := by decide +kernel
theorem dX8_patternLine_22 : decode cX8_patternLine 22 = .ok (.iadd, 1) := by decide +kernel
theorem dX8_patternLine_23 : decode cX8_patternLine 23 = .ok (.istore_n 1, 1) := by decide +kernel
theorem dX8_patternLine_24 : decode cX8_patternLine 24 = .ok (.aload_n 0, 1) := by decide +kernel
theorem dX8_patternLine_25 : decode cX8_patternLine 25 = .ok (.getfield 13, 3) := by decide +kernel
theorem dX8_patternLine_28 : decode cX8_patternLine 28 = .ok (.iload_n 1, 1) := by decide +kernel
theorem dX8_patternLine_29 : decode cX8_patternLine 29 = .ok (.aload_n 0, 1) := by decide +kernel
theorem dX8_patternLine_30 : decode cX8_patternLine 30 = .ok (.iconst 1, 1) := by decide +kernel
theorem dX8_patternLine_31 : decode cX8_patternLine 31 = .ok (.bipush 99, 2) := by decide +kernel
theorem dX8_patternLine_33 : decode cX8_patternLine 33 = .ok (.invokevirtual 141, 3) := by decide +kernel
theorem dX8_patternLine_36 : decode cX8_patternLine 36 = .ok (.iastore, 1) := by decide +kernel
theorem dX8_patternLine_37 : decode cX8_patternLine 37 = .ok (.aload_n 0, 1) := by decide +kernel
theorem dX8_patternLine_38 : decode cX8_patternLine 38 = .ok (.getfield 13, 3) := by decide +kernel
theorem dX8_patternLine_41 : decode cX8_patternLine 41 = .ok (.iload_n 1, 1) := by decide +kernel
theorem dX8_patternLine_42 : decode cX8_patternLine 42 = .ok (.iconst 1, 1) := by decide +kernel
theorem dX8_patternLine_43 : decode cX8_patternLine 43 = .ok (.iadd, 1) := by decide +kernel
theorem dX8_patternLine_44 : decode cX8_patternLine 44 = .ok (.aload_n 0, 1) := by decide +kernel
theorem dX8_patternLine_45 : decode cX8_patternLine 45 = .ok (.iconst 1, 1) := by decide +kernel
theorem dX8_patternLine_46 : decode cX8_patternLine 46 = .ok (.sipush 200, 3) := by decide +kernel
theorem dX8_patternLine_49 : decode cX8_patternLine 49 = .ok (.invokevirtual 141, 3) := by decide +kernel
theorem dX8_patternLine_52 : decode cX8_patternLine 52 = .ok (.iastore, 1) := by decide +kernel
theorem dX8_patternLine_53 : decode cX8_patternLine 53 = .ok (.iconst 0, 1) := by decide +kernel
theorem dX8_patternLine_54 : decode cX8_patternLine 54 = .ok (.istore_n 2, 1) := by decide +kernel
theorem dX8_patternLine_55 : decode cX8_patternLine 55 = .ok (.iconst 3, 1) := by decide +kernel
theorem dX8_patternLine_56 : decode cX8_patternLine 56 = .ok (.istore_n 3, 1) := by decide +kernel
theorem dX8_patternLine_57 : decode cX8_patternLine 57 = .ok (.iload_n 3, 1) := by decide +kernel
theorem dX8_patternLine_58 : decode cX8_patternLine 58 = .ok (.bipush 8, 2) := by decide +kernel
theorem dX8_patternLine_60 : decode cX8_patternLine 60 = .ok (.if_icmp .ge 18, 3) := by decide +kernel
theorem dX8_patternLine_63 : decode cX8_patternLine 63 = .ok (.aload_n 0, 1) := by decide +kernel
theorem dX8_patternLine_64 : decode cX8_patternLine 64 = .ok (.getfield 13, 3) := by decide +kernel
theorem dX8_patternLine_67 : decode cX8_patternLine 67 = .ok (.iload_n 1, 1) := by decide +kernel
theorem dX8_patternLine_68 : decode cX8_patternLine 68 = .ok (.iload_n 3, 1) := by decide +kernel
theorem dX8_patternLine_69 : decode cX8_patternLine 69 = .ok (.iadd, 1) := by decide +kernel
theorem dX8_patternLine_70 : decode cX8_patternLine 70 = .ok (.iconst (-1), 1) := by decide +kernel
theorem dX8_patternLine_71 : decode cX8_patternLine 71 = .ok (.iastore, 1) := by decide +kernel
theorem dX8_patternLine_72 : decode cX8_patternLine 72 = .ok (.iinc 3 1, 3) := by decide +kernel
theorem dX8_patternLine_75 : decode cX8_patternLine 75 = .ok (.goto (-18), 3) := by decide +kernel
theorem dX8_patternLine_78 : decode cX8_patternLine 78 = .ok (.aload_n 0, 1) := by decide +kernel
theorem dX8_patternLine_79 : decode cX8_patternLine 79 = .ok (.getfield 89, 3) := by decide +kernel
theorem dX8_patternLine_82 : decode cX8_patternLine 82 = .ok (.ifCond .ne 78, 3) := by decide +kernel
theorem dX8_patternLine_85 : decode cX8_patternLine 85 = .ok (.iload_n 2, 1) := by decide +kernel
theorem dX8_patternLine_86 : decode cX8_patternLine 86 = .ok (.ifCond .eq 11, 3) := by decide +kernel
theorem dX8_patternLine_89 : decode cX8_patternLine 89 = .ok (.aload_n 0, 1) := by decide +kernel
theorem dX8_patternLine_90 : decode cX8_patternLine 90 = .ok (.getfield 79, 3) := by decide +kernel
theorem dX8_patternLine_93 : decode cX8_patternLine 93 = .ok (.iconst 1, 1) := by decide +kernel
theorem dX8_patternLine_94 : decode cX8_patternLine 94 = .ok (.if_icmp .ne 66, 3) := by decide +kernel
theorem dX8_patternLine_97 : decode cX8_patternLine 97 = .ok (.aload_n 0, 1) := by decide +kernel
theorem dX8_patternLine_98 : decode cX8_patternLine 98 = .ok (.invokevirtual 144, 3) := by decide +kernel
theorem dX8_patternLine_101 : decode cX8_patternLine 101 = .ok (.istore_n 3, 1) := by decide +kernel
theorem dX8_patternLine_102 : decode cX8_patternLine 102 = .ok (.aload_n 0, 1) := by decide +kernel
theorem dX8_patternLine_103 : decode cX8_patternLine 103 = .ok (.iload_n 3, 1) := by decide +kernel
theorem dX8_patternLine_104 : decode cX8_patternLine 104 = .ok (.iconst (-1), 1) := by decide +kernel
theorem dX8_patternLine_105 : decode cX8_patternLine 105 = .ok (.if_icmp .eq 7, 3) := by decide +kernel
theorem dX8_patternLine_108 : decode cX8_patternLine 108 = .ok (.iconst 1, 1) := by decide +kernel
theorem dX8_patternLine_109 : decode cX8_patternLine 109 = .ok (.goto 4, 3) := by decide +kernel
theorem dX8_patternLine_112 : decode cX8_patternLine 112 = .ok (.iconst 0, 1) := by decide +kernel
theorem dX8_patternLine_113 : decode cX8_patternLine 113 = .ok (.iconst 1, 1) := by decide +kernel
theorem dX8_patternLine_114 : decode cX8_patternLine 114 = .ok (.invokevirtual 107, 3) := by decide +kernel
theorem dX8_patternLine_117 : decode cX8_patternLine 117 = .ok (.ifCond .eq 21, 3) := by decide +kernel
theorem dX8_patternLine_120 : decode cX8_patternLine 120 = .ok (.aload_n 0, 1) := by decide +kernel
theorem dX8_patternLine_121 : decode cX8_patternLine 121 = .ok (.iload_n 2, 1) := by decide +kernel
theorem dX8_patternLine_122 : decode cX8_patternLine 122 = .ok (.iconst 5, 1) := by decide +kernel
theorem dX8_patternLine_123 : decode cX8_patternLine 123 = .ok (.if_icmp .ge 7, 3) := by decide +kernel
theorem dX8_patternLine_126 : decode cX8_patternLine 126 = .ok (.iconst 1, 1) := by decide +kernel
theorem dX8_patternLine_127 : decode cX8_patternLine 127 = .ok (.goto 4, 3) := by decide +kernel
theorem dX8_patternLine_130 : decode cX8_patternLine 130 = .ok (.iconst 0, 1) := by decide +kernel
theorem dX8_patternLine_131 : decode cX8_patternLine 131 = .ok (.iconst 5, 1) := by decide +kernel
theorem dX8_patternLine_132 : decode cX8_patternLine 132 = .ok (.invokevirtual 107, 3) := by decide +kernel
theorem dX8_patternLine_135 : decode cX8_patternLine 135 = .ok (.ifCond .ne 4, 3) := by decide +kernel
theorem dX8_patternLine_138 : decode cX8_patternLine 138 = .ok (.return_, 1) := by decide +kernel
theorem dX8_patternLine_139 : decode cX8_patternLine 139 = .ok (.aload_n 0, 1) := by decide +kernel
theorem dX8_patternLine_140 : decode cX8_patternLine 140 = .ok (.getfield 13, 3) := by decide +kernel
theorem dX8_patternLine_143 : decode cX8_patternLine 143 = .ok (.iload_n 1, 1) := by decide +kernel
theorem dX8_patternLine_144 : decode cX8_patternLine 144 = .ok (.iconst 3, 1) := by decide +kernel
theorem dX8_patternLine_145 : decode cX8_patternLine 145 = .ok (.iadd, 1) := by decide +kernel
theorem dX8_patternLine_146 : decode cX8_patternLine 146 = .ok (.iload_n 2, 1) := by decide +kernel
theorem dX8_patternLine_147 : decode cX8_patternLine 147 = .ok (.iadd, 1) := by decide +kernel
theorem dX8_patternLine_148 : decode cX8_patternLine 148 = .ok (.iload_n 3, 1) := by decide +kernel
theorem dX8_patternLine_149 : decode cX8_patternLine 149 = .ok (.iastore, 1) := by decide +kernel
theorem dX8_patternLine_150 : decode cX8_patternLine 150 = .ok (.iinc 2 1, 3) := by decide +kernel
theorem dX8_patternLine_153 : decode cX8_patternLine 153 = .ok (.aload_n 0, 1) := by decide +kernel
theorem dX8_patternLine_154 : decode cX8_patternLine 154 = .ok (.invokevirtual 111, 3) := by decide +kernel
theorem dX8_patternLine_157 : decode cX8_patternLine 157 = .ok (.goto (-79), 3) := by decide +kernel
theorem dX8_patternLine_160 : decode cX8_patternLine 160 = .ok (.aload_n 0, 1) := by decide +kernel
theorem dX8_patternLine_161 : decode cX8_patternLine 161 = .ok (.getfield 13, 3) := by decide +kernel
theorem dX8_patternLine_164 : decode cX8_patternLine 164 = .ok (.iload_n 1, 1) := by decide +kernel
theorem dX8_patternLine_165 : decode cX8_patternLine 165 = .ok (.iconst 2, 1) := by decide +kernel
theorem dX8_patternLine_166 : decode cX8_patternLine 166 = .ok (.iadd, 1) := by decide +kernel
theorem dX8_patternLine_167 : decode cX8_patternLine 167 = .ok (.iload_n 2, 1) := by decide +kernel
theorem dX8_patternLine_168 : decode cX8_patternLine 168 = .ok (.iastore, 1) := by decide +kernel
theorem dX8_patternLine_169 : decode cX8_patternLine 169 = .ok (.aload_n 0, 1) := by decide +kernel
theorem dX8_patternLine_170 : decode cX8_patternLine 170 = .ok (.getfield 89, 3) := by decide +kernel
theorem dX8_patternLine_173 : decode cX8_patternLine 173 = .ok (.ifCond .ne 13, 3) := by decide +kernel
theorem dX8_patternLine_176 : decode cX8_patternLine 176 = .ok (.aload_n 0, 1) := by decide +kernel
theorem dX8_patternLine_177 : decode cX8_patternLine 177 = .ok (.getfield 13, 3) := by decide +kernel
theorem dX8_patternLine_180 : decode cX8_patternLine 180 = .ok (.iconst 0, 1) := by decide +kernel
theorem dX8_patternLine_181 : decode cX8_patternLine 181 = .ok (.dup2, 1) := by decide +kernel
theorem dX8_patternLine_182 : decode cX8_patternLine 182 = .ok (.iaload, 1) := by decide +kernel
theorem dX8_patternLine_183 : decode cX8_patternLine 183 = .ok (.iconst 1, 1) := by decide +kernel
theorem dX8_patternLine_184 : decode cX8_patternLine 184 = .ok (.iadd, 1) := by decide +kernel
theorem dX8_patternLine_185 : decode cX8_patternLine 185 = .ok (.iastore, 1) := by decide +kernel
theorem dX8_patternLine_186 : decode cX8_patternLine 186 = .ok (.return_, 1) := by decide +kernel
theorem dX8_isTaken_0 : decode cX8_isTaken 0 = .ok (.iconst 0, 1) := by decide +kernel
theorem dX8_isTaken_1 : decode cX8_isTaken 1 = .ok (.istore_n 2, 1) := by decide +kernel
theorem dX8_isTaken_2 : decode cX8_isTaken 2 = .ok (.iload_n 2, 1) := by decide +kernel
theorem dX8_isTaken_3 : decode cX8_isTaken 3 = .ok (.aload_n 0, 1) := by decide +kernel
theorem dX8_isTaken_4 : decode cX8_isTaken 4 = .ok (.getfield 13, 3) := by decide +kernel
theorem dX8_isTaken_7 : decode cX8_isTaken 7 = .ok (.iconst 1, 1) := by decide +kernel
theorem dX8_isTaken_8 : decode cX8_isTaken 8 = .ok (.iaload, 1) := by decide +kernel
theorem dX8_isTaken_9 : decode cX8_isTaken 9 = .ok (.if_icmp .ge 24, 3) := by decide +kernel
theorem dX8_isTaken_12 : decode cX8_isTaken 12 = .ok (.aload_n 0, 1) := by decide +kernel
theorem dX8_isTaken_13 : decode cX8_isTaken 13 = .ok (.getfield 13, 3) := by decide +kernel
theorem dX8_isTaken_16 : decode cX8_isTaken 16 = .ok (.bipush 55, 2) := by decide +kernel
theorem dX8_isTaken_18 : decode cX8_isTaken 18 = .ok (.iload_n 2, 1) := by decide +kernel
theorem dX8_isTaken_19 : decode cX8_isTaken 19 = .ok (.iadd, 1) := by decide +kernel
theorem dX8_isTaken_20 : decode cX8_isTaken 20 = .ok (.iaload, 1) := by decide +kernel
theorem dX8_isTaken_21 : decode cX8_isTaken 21 = .ok (.iload_n 1, 1) := by decide +kernel
theorem dX8_isTaken_22 : decode cX8_isTaken 22 = .ok (.if_icmp .ne 5, 3) := by decide +kernel
theorem dX8_isTaken_25 : decode cX8_isTaken 25 = .ok (.iconst 1, 1) := by decide +kernel
theorem dX8_isTaken_26 : decode cX8_isTaken 26 = .ok (.ireturn, 1) := by decide +kernel
theorem dX8_isTaken_27 : decode cX8_isTaken 27 = .ok (.iinc 2 1, 3) := by decide +kernel
theorem dX8_isTaken_30 : decode cX8_isTaken 30 = .ok (.goto (-28), 3) := by decide +kernel
theorem dX8_isTaken_33 : decode cX8_isTaken 33 = .ok (.iconst 0, 1) := by decide +kernel
theorem dX8_isTaken_34 : decode cX8_isTaken 34 = .ok (.ireturn, 1) := by decide +kernel
theorem dX8_deviceLine_0 : decode cX8_deviceLine 0 = .ok (.aload_n 0, 1) := by decide +kernel
theorem dX8_deviceLine_1 : decode cX8_deviceLine 1 = .ok (.iconst 1, 1) := by decide +kernel
theorem dX8_deviceLine_2 : decode cX8_deviceLine 2 = .ok (.bipush 8, 2) := by decide +kernel
theorem dX8_deviceLine_4 : decode cX8_deviceLine 4 = .ok (.invokevirtual 137, 3) := by decide +kernel
theorem dX8_deviceLine_7 : decode cX8_deviceLine 7 = .ok (.ifCond .ne 4, 3) := by decide +kernel
theorem dX8_deviceLine_10 : decode cX8_deviceLine 10 = .ok (.return_, 1) := by decide +kernel
theorem dX8_deviceLine_11 : decode cX8_deviceLine 11 = .ok (.aload_n 0, 1) := by decide +kernel
theorem dX8_deviceLine_12 : decode cX8_deviceLine 12 = .ok (.getfield 13, 3) := by decide +kernel
theorem dX8_deviceLine_15 : decode cX8_deviceLine 15 = .ok (.iconst 1, 1) := by decide +kernel
theorem dX8_deviceLine_16 : decode cX8_deviceLine 16 = .ok (.iaload, 1) := by decide +kernel
theorem dX8_deviceLine_17 : decode cX8_deviceLine 17 = .ok (.istore_n 1, 1) := by decide +kernel
theorem dX8_deviceLine_18 : decode cX8_deviceLine 18 = .ok (.aload_n 0, 1) := by decide +kernel
theorem dX8_deviceLine_19 : decode cX8_deviceLine 19 = .ok (.aload_n 0, 1) := by decide +kernel
theorem dX8_deviceLine_20 : decode cX8_deviceLine 20 = .ok (.getfield 79, 3) := by decide +kernel
theorem dX8_deviceLine_23 : decode cX8_deviceLine 23 = .ok (.iconst 2, 1) := by decide +kernel
theorem dX8_deviceLine_24 : decode cX8_deviceLine 24 = .ok (.if_icmp .ne 7, 3) := by decide +kernel
theorem dX8_deviceLine_27 : decode cX8_deviceLine 27 = .ok (.iconst 1, 1) := by decide +kernel
theorem dX8_deviceLine_28 : decode cX8_deviceLine 28 = .ok (.goto 4, 3) := by decide +kernel
theorem dX8_deviceLine_31 : decode cX8_deviceLine 31 = .ok (.iconst 0, 1) := by decide +kernel
theorem dX8_deviceLine_32 : decode cX8_deviceLine 32 = .ok (.iconst 1, 1) := by decide +kernel
theorem dX8_deviceLine_33 : decode cX8_deviceLine 33 = .ok (.invokevirtual 107, 3) := by decide +kernel
theorem dX8_deviceLine_36 : decode cX8_deviceLine 36 = .ok (.ifCond .eq 25, 3) := by decide +kernel
theorem dX8_deviceLine_39 : decode cX8_deviceLine 39 = .ok (.aload_n 0, 1) := by decide +kernel
theorem dX8_deviceLine_40 : decode cX8_deviceLine 40 = .ok (.aload_n 0, 1) := by decide +kernel
theorem dX8_deviceLine_41 : decode cX8_deviceLine 41 = .ok (.aload_n 0, 1) := by decide +kernel
theorem dX8_deviceLine_42 : decode cX8_deviceLine 42 = .ok (.getfield 86, 3) := by decide +kernel
theorem dX8_deviceLine_45 : decode cX8_deviceLine 45 = .ok (.invokevirtual 147, 3) := by decide +kernel
theorem dX8_deviceLine_48 : decode cX8_deviceLine 48 = .ok (.ifCond .ne 7, 3) := by decide +kernel
theorem dX8_deviceLine_51 : decode cX8_deviceLine 51 = .ok (.iconst 1, 1) := by decide +kernel
theorem dX8_deviceLine_52 : decode cX8_deviceLine 52 = .ok (.goto 4, 3) := by decide +kernel
theorem dX8_deviceLine_55 : decode cX8_deviceLine 55 = .ok (.iconst 0, 1) := by decide +kernel
theorem dX8_deviceLine_56 : decode cX8_deviceLine 56 = .ok (.iconst 3, 1) := by decide +kernel
theorem dX8_deviceLine_57 : decode cX8_deviceLine 57 = .ok (.invokevirtual 107, 3) := by decide +kernel
theorem dX8_deviceLine_60 : decode cX8_deviceLine 60 = .ok (.pop, 1) := by decide +kernel
theorem dX8_deviceLine_61 : decode cX8_deviceLine 61 = .ok (.aload_n 0, 1) := by decide +kernel
theorem dX8_deviceLine_62 : decode cX8_deviceLine 62 = .ok (.getfield 13, 3) := by decide +kernel
theorem dX8_deviceLine_65 : decode cX8_deviceLine 65 = .ok (.bipush 55, 2) := by decide +kernel
theorem dX8_deviceLine_67 : decode cX8_deviceLine 67 = .ok (.iload_n 1, 1) := by decide +kernel
theorem dX8_deviceLine_68 : decode cX8_deviceLine 68 = .ok (.iadd, 1) := by decide +kernel
theorem dX8_deviceLine_69 : decode cX8_deviceLine 69 = .ok (.aload_n 0, 1) := by decide +kernel
theorem dX8_deviceLine_70 : decode cX8_deviceLine 70 = .ok (.iconst 0, 1) := by decide +kernel
theorem dX8_deviceLine_71 : decode cX8_deviceLine 71 = .ok (.aload_n 0, 1) := by decide +kernel
theorem dX8_deviceLine_72 : decode cX8_deviceLine 72 = .ok (.getfield 13, 3) := by decide +kernel
theorem dX8_deviceLine_75 : decode cX8_deviceLine 75 = .ok (.iconst 4, 1) := by decide +kernel
theorem dX8_deviceLine_76 : decode cX8_deviceLine 76 = .ok (.iaload, 1) := by decide +kernel
theorem dX8_deviceLine_77 : decode cX8_deviceLine 77 = .ok (.iconst 1, 1) := by decide +kernel
theorem dX8_deviceLine_78 : decode cX8_deviceLine 78 = .ok (.isub, 1) := by decide +kernel
theorem dX8_deviceLine_79 : decode cX8_deviceLine 79 = .ok (.invokevirtual 141, 3) := by decide +kernel
theorem dX8_deviceLine_82 : decode cX8_deviceLine 82 = .ok (.iastore, 1) := by decide +kernel
theorem dX8_deviceLine_83 : decode cX8_deviceLine 83 = .ok (.aload_n 0, 1) := by decide +kernel
theorem dX8_deviceLine_84 : decode cX8_deviceLine 84 = .ok (.getfield 13, 3) := by decide +kernel
theorem dX8_deviceLine_87 : decode cX8_deviceLine 87 = .ok (.bipush 63, 2) := by decide +kernel
theorem dX8_deviceLine_89 : decode cX8_deviceLine 89 = .ok (.iload_n 1, 1) := by decide +kernel
theorem dX8_deviceLine_90 : decode cX8_deviceLine 90 = .ok (.iadd, 1) := by decide +kernel
theorem dX8_deviceLine_91 : decode cX8_deviceLine 91 = .ok (.iconst (-1), 1) := by decide +kernel
theorem dX8_deviceLine_92 : decode cX8_deviceLine 92 = .ok (.iastore, 1) := by decide +kernel
theorem dX8_deviceLine_93 : decode cX8_deviceLine 93 = .ok (.aload_n 0, 1) := by decide +kernel
theorem dX8_deviceLine_94 : decode cX8_deviceLine 94 = .ok (.ldc 151, 2) := by decide +kernel
theorem dX8_deviceLine_96 : decode cX8_deviceLine 96 = .ok (.invokevirtual 127, 3) := by decide +kernel
theorem dX8_deviceLine_99 : decode cX8_deviceLine 99 = .ok (.ifCond .eq 20, 3) := by decide +kernel
theorem dX8_deviceLine_102 : decode cX8_deviceLine 102 = .ok (.aload_n 0, 1) := by decide +kernel
theorem dX8_deviceLine_103 : decode cX8_deviceLine 103 = .ok (.invokevirtual 111, 3) := by decide +kernel
theorem dX8_deviceLine_106 : decode cX8_deviceLine 106 = .ok (.aload_n 0, 1) := by decide +kernel
theorem dX8_deviceLine_107 : decode cX8_deviceLine 107 = .ok (.getfield 13, 3) := by decide +kernel
theorem dX8_deviceLine_110 : decode cX8_deviceLine 110 = .ok (.bipush 63, 2) := by decide +kernel
theorem dX8_deviceLine_112 : decode cX8_deviceLine 112 = .ok (.iload_n 1, 1) := by decide +kernel
theorem dX8_deviceLine_113 : decode cX8_deviceLine 113 = .ok (.iadd, 1) := by decide +kernel
theorem dX8_deviceLine_114 : decode cX8_deviceLine 114 = .ok (.aload_n 0, 1) := by decide +kernel
theorem dX8_deviceLine_115 : decode cX8_deviceLine 115 = .ok (.invokevirtual 153, 3) := by decide +kernel
theorem dX8_deviceLine_118 : decode cX8_deviceLine 118 = .ok (.iastore, 1) := by decide +kernel
theorem dX8_deviceLine_119 : decode cX8_deviceLine 119 = .ok (.aload_n 0, 1) := by decide +kernel
theorem dX8_deviceLine_120 : decode cX8_deviceLine 120 = .ok (.getfield 89, 3) := by decide +kernel
theorem dX8_deviceLine_123 : decode cX8_deviceLine 123 = .ok (.ifCond .ne 13, 3) := by decide +kernel
theorem dX8_deviceLine_126 : decode cX8_deviceLine 126 = .ok (.aload_n 0, 1) := by decide +kernel
theorem dX8_deviceLine_127 : decode cX8_deviceLine 127 = .ok (.getfield 13, 3) := by decide +kernel
theorem dX8_deviceLine_130 : decode cX8_deviceLine 130 = .ok (.iconst 1, 1) := by decide +kernel
theorem dX8_deviceLine_131 : decode cX8_deviceLine 131 = .ok (.dup2, 1) := by decide +kernel
theorem dX8_deviceLine_132 : decode cX8_deviceLine 132 = .ok (.iaload, 1) := by decide +kernel
theorem dX8_deviceLine_133 : decode cX8_deviceLine 133 = .ok (.iconst 1, 1) := by decide +kernel
theorem dX8_deviceLine_134 : decode cX8_deviceLine 134 = .ok (.iadd, 1) := by decide +kernel
theorem dX8_deviceLine_135 : decode cX8_deviceLine 135 = .ok (.iastore, 1) := by decide +kernel
theorem dX8_deviceLine_136 : decode cX8_deviceLine 136 = .ok (.return_, 1) := by decide +kernel
theorem dX8_streamLine_0 : decode cX8_streamLine 0 = .ok (.aload_n 0, 1) := by decide +kernel
theorem dX8_streamLine_1 : decode cX8_streamLine 1 = .ok (.iconst 2, 1) := by decide +kernel
theorem dX8_streamLine_2 : decode cX8_streamLine 2 = .ok (.bipush 12, 2) := by decide +kernel
theorem dX8_streamLine_4 : decode cX8_streamLine 4 = .ok (.invokevirtual 137, 3) := by decide +kernel
theorem dX8_streamLine_7 : decode cX8_streamLine 7 = .ok (.ifCond .ne 4, 3) := by decide +kernel
theorem dX8_streamLine_10 : decode cX8_streamLine 10 = .ok (.return_, 1) := by decide +kernel
theorem dX8_streamLine_11 : decode cX8_streamLine 11 = .ok (.bipush 71, 2) := by decide +kernel
theorem dX8_streamLine_13 : decode cX8_streamLine 13 = .ok (.iconst 3, 1) := by decide +kernel
theorem dX8_streamLine_14 : decode cX8_streamLine 14 = .ok (.aload_n 0, 1) := by decide +kernel
theorem dX8_streamLine_15 : decode cX8_streamLine 15 = .ok (.getfield 13, 3) := by decide +kernel
theorem dX8_streamLine_18 : decode cX8_streamLine 18 = .ok (.iconst 2, 1) := by decide +kernel
theorem dX8_streamLine_19 : decode cX8_streamLine 19 = .ok (.iaload, 1) := by decide +kernel
theorem dX8_streamLine_20 : decode cX8_streamLine 20 = .ok (.imul, 1) := by decide +kernel
theorem dX8_streamLine_21 : decode cX8_streamLine 21 = .ok (.iadd, 1) := by decide +kernel
theorem dX8_streamLine_22 : decode cX8_streamLine 22 = .ok (.istore_n 1, 1) := by decide +kernel
theorem dX8_streamLine_23 : decode cX8_streamLine 23 = .ok (.aload_n 0, 1) := by decide +kernel
theorem dX8_streamLine_24 : decode cX8_streamLine 24 = .ok (.getfield 13, 3) := by decide +kernel
theorem dX8_streamLine_27 : decode cX8_streamLine 27 = .ok (.iload_n 1, 1) := by decide +kernel
theorem dX8_streamLine_28 : decode cX8_streamLine 28 = .ok (.aload_n 0, 1) := by decide +kernel
theorem dX8_streamLine_29 : decode cX8_streamLine 29 = .ok (.invokevirtual 153, 3) := by decide +kernel
theorem dX8_streamLine_32 : decode cX8_streamLine 32 = .ok (.iastore, 1) := by decide +kernel
theorem dX8_streamLine_33 : decode cX8_streamLine 33 = .ok (.aload_n 0, 1) := by decide +kernel
theorem dX8_streamLine_34 : decode cX8_streamLine 34 = .ok (.getfield 13, 3) := by decide +kernel
theorem dX8_streamLine_37 : decode cX8_streamLine 37 = .ok (.iload_n 1, 1) := by decide +kernel
theorem dX8_streamLine_38 : decode cX8_streamLine 38 = .ok (.iconst 1, 1) := by decide +kernel
theorem dX8_streamLine_39 : decode cX8_streamLine 39 = .ok (.iadd, 1) := by decide +kernel
theorem dX8_streamLine_40 : decode cX8_streamLine 40 = .ok (.aload_n 0, 1) := by decide +kernel
theorem dX8_streamLine_41 : decode cX8_streamLine 41 = .ok (.iconst 1, 1) := by decide +kernel
theorem dX8_streamLine_42 : decode cX8_streamLine 42 = .ok (.aload_n 0, 1) := by decide +kernel
theorem dX8_streamLine_43 : decode cX8_streamLine 43 = .ok (.getfield 13, 3) := by decide +kernel
theorem dX8_streamLine_46 : decode cX8_streamLine 46 = .ok (.iconst 3, 1) := by decide +kernel
theorem dX8_streamLine_47 : decode cX8_streamLine 47 = .ok (.iaload, 1) := by decide +kernel
theorem dX8_streamLine_48 : decode cX8_streamLine 48 = .ok (.invokevirtual 141, 3) := by decide +kernel
theorem dX8_streamLine_51 : decode cX8_streamLine 51 = .ok (.iastore, 1) := by decide +kernel
theorem dX8_streamLine_52 : decode cX8_streamLine 52 = .ok (.aload_n 0, 1) := by decide +kernel
theorem dX8_streamLine_53 : decode cX8_streamLine 53 = .ok (.getfield 13, 3) := by decide +kernel
theorem dX8_streamLine_56 : decode cX8_streamLine 56 = .ok (.iload_n 1, 1) := by decide +kernel
theorem dX8_streamLine_57 : decode cX8_streamLine 57 = .ok (.iconst 2, 1) := by decide +kernel
theorem dX8_streamLine_58 : decode cX8_streamLine 58 = .ok (.iadd, 1) := by decide +kernel
theorem dX8_streamLine_59 : decode cX8_streamLine 59 = .ok (.aload_n 0, 1) := by decide +kernel
theorem dX8_streamLine_60 : decode cX8_streamLine 60 = .ok (.iconst 1, 1) := by decide +kernel
theorem dX8_streamLine_61 : decode cX8_streamLine 61 = .ok (.sipush 9999, 3) := by decide +kernel
theorem dX8_streamLine_64 : decode cX8_streamLine 64 = .ok (.invokevirtual 141, 3) := by decide +kernel
theorem dX8_streamLine_67 : decode cX8_streamLine 67 = .ok (.iastore, 1) := by decide +kernel
theorem dX8_streamLine_68 : decode cX8_streamLine 68 = .ok (.aload_n 0, 1) := by decide +kernel
theorem dX8_streamLine_69 : decode cX8_streamLine 69 = .ok (.getfield 89, 3) := by decide +kernel
theorem dX8_streamLine_72 : decode cX8_streamLine 72 = .ok (.ifCond .ne 13, 3) := by decide +kernel
theorem dX8_streamLine_75 : decode cX8_streamLine 75 = .ok (.aload_n 0, 1) := by decide +kernel
theorem dX8_streamLine_76 : decode cX8_streamLine 76 = .ok (.getfield 13, 3) := by decide +kernel
theorem dX8_streamLine_79 : decode cX8_streamLine 79 = .ok (.iconst 2, 1) := by decide +kernel
theorem dX8_streamLine_80 : decode cX8_streamLine 80 = .ok (.dup2, 1) := by decide +kernel
theorem dX8_streamLine_81 : decode cX8_streamLine 81 = .ok (.iaload, 1) := by decide +kernel
theorem dX8_streamLine_82 : decode cX8_streamLine 82 = .ok (.iconst 1, 1) := by decide +kernel
theorem dX8_streamLine_83 : decode cX8_streamLine 83 = .ok (.iadd, 1) := by decide +kernel
theorem dX8_streamLine_84 : decode cX8_streamLine 84 = .ok (.iastore, 1) := by decide +kernel
theorem dX8_streamLine_85 : decode cX8_streamLine 85 = .ok (.return_, 1) := by decide +kernel
theorem dX8_alarmLine_0 : decode cX8_alarmLine 0 = .ok (.aload_n 0, 1) := by decide +kernel
theorem dX8_alarmLine_1 : decode cX8_alarmLine 1 = .ok (.aload_n 0, 1) := by decide +kernel
theorem dX8_alarmLine_2 : decode cX8_alarmLine 2 = .ok (.getfield 114, 3) := by decide +kernel
theorem dX8_alarmLine_5 : decode cX8_alarmLine 5 = .ok (.ifCond .ne 7, 3) := by decide +kernel
theorem dX8_alarmLine_8 : decode cX8_alarmLine 8 = .ok (.iconst 1, 1) := by decide +kernel
theorem dX8_alarmLine_9 : decode cX8_alarmLine 9 = .ok (.goto 4, 3) := by decide +kernel
theorem dX8_alarmLine_12 : decode cX8_alarmLine 12 = .ok (.iconst 0, 1) := by decide +kernel
theorem dX8_alarmLine_13 : decode cX8_alarmLine 13 = .ok (.iconst 3, 1) := by decide +kernel
theorem dX8_alarmLine_14 : decode cX8_alarmLine 14 = .ok (.invokevirtual 107, 3) := by decide +kernel
theorem dX8_alarmLine_17 : decode cX8_alarmLine 17 = .ok (.ifCond .ne 4, 3) := by decide +kernel
theorem dX8_alarmLine_20 : decode cX8_alarmLine 20 = .ok (.return_, 1) := by decide +kernel
theorem dX8_alarmLine_21 : decode cX8_alarmLine 21 = .ok (.aload_n 0, 1) := by decide +kernel
theorem dX8_alarmLine_22 : decode cX8_alarmLine 22 = .ok (.iconst 1, 1) := by decide +kernel
theorem dX8_alarmLine_23 : decode cX8_alarmLine 23 = .ok (.putfield 114, 3) := by decide +kernel
theorem dX8_alarmLine_26 : decode cX8_alarmLine 26 = .ok (.aload_n 0, 1) := by decide +kernel
theorem dX8_alarmLine_27 : decode cX8_alarmLine 27 = .ok (.invokevirtual 111, 3) := by decide +kernel
theorem dX8_alarmLine_30 : decode cX8_alarmLine 30 = .ok (.aload_n 0, 1) := by decide +kernel
theorem dX8_alarmLine_31 : decode cX8_alarmLine 31 = .ok (.getfield 13, 3) := by decide +kernel
theorem dX8_alarmLine_34 : decode cX8_alarmLine 34 = .ok (.iconst 5, 1) := by decide +kernel
theorem dX8_alarmLine_35 : decode cX8_alarmLine 35 = .ok (.aload_n 0, 1) := by decide +kernel
theorem dX8_alarmLine_36 : decode cX8_alarmLine 36 = .ok (.iconst 1, 1) := by decide +kernel
theorem dX8_alarmLine_37 : decode cX8_alarmLine 37 = .ok (.sipush 999, 3) := by decide +kernel
theorem dX8_alarmLine_40 : decode cX8_alarmLine 40 = .ok (.invokevirtual 141, 3) := by decide +kernel
theorem dX8_alarmLine_43 : decode cX8_alarmLine 43 = .ok (.iastore, 1) := by decide +kernel
theorem dX8_alarmLine_44 : decode cX8_alarmLine 44 = .ok (.aload_n 0, 1) := by decide +kernel
theorem dX8_alarmLine_45 : decode cX8_alarmLine 45 = .ok (.getfield 13, 3) := by decide +kernel
theorem dX8_alarmLine_48 : decode cX8_alarmLine 48 = .ok (.bipush 6, 2) := by decide +kernel
theorem dX8_alarmLine_50 : decode cX8_alarmLine 50 = .ok (.aload_n 0, 1) := by decide +kernel
theorem dX8_alarmLine_51 : decode cX8_alarmLine 51 = .ok (.iconst 1, 1) := by decide +kernel
theorem dX8_alarmLine_52 : decode cX8_alarmLine 52 = .ok (.bipush 99, 2) := by decide +kernel
theorem dX8_alarmLine_54 : decode cX8_alarmLine 54 = .ok (.invokevirtual 141, 3) := by decide +kernel
theorem dX8_alarmLine_57 : decode cX8_alarmLine 57 = .ok (.iastore, 1) := by decide +kernel
theorem dX8_alarmLine_58 : decode cX8_alarmLine 58 = .ok (.return_, 1) := by decide +kernel
theorem dX8_statement_0 : decode cX8_statement 0 = .ok (.aload_n 0, 1) := by decide +kernel
theorem dX8_statement_1 : decode cX8_statement 1 = .ok (.ldc 156, 2) := by decide +kernel
theorem dX8_statement_3 : decode cX8_statement 3 = .ok (.invokevirtual 127, 3) := by decide +kernel
theorem dX8_statement_6 : decode cX8_statement 6 = .ok (.ifCond .eq 10, 3) := by decide +kernel
theorem dX8_statement_9 : decode cX8_statement 9 = .ok (.aload_n 0, 1) := by decide +kernel
theorem dX8_statement_10 : decode cX8_statement 10 = .ok (.invokevirtual 158, 3) := by decide +kernel
theorem dX8_statement_13 : decode cX8_statement 13 = .ok (.goto 58, 3) := by decide +kernel
theorem dX8_statement_16 : decode cX8_statement 16 = .ok (.aload_n 0, 1) := by decide +kernel
theorem dX8_statement_17 : decode cX8_statement 17 = .ok (.ldc 161, 2) := by decide +kernel
theorem dX8_statement_19 : decode cX8_statement 19 = .ok (.invokevirtual 127, 3) := by decide +kernel
theorem dX8_statement_22 : decode cX8_statement 22 = .ok (.ifCond .eq 10, 3) := by decide +kernel
theorem dX8_statement_25 : decode cX8_statement 25 = .ok (.aload_n 0, 1) := by decide +kernel
theorem dX8_statement_26 : decode cX8_statement 26 = .ok (.invokevirtual 163, 3) := by decide +kernel
theorem dX8_statement_29 : decode cX8_statement 29 = .ok (.goto 42, 3) := by decide +kernel
theorem dX8_statement_32 : decode cX8_statement 32 = .ok (.aload_n 0, 1) := by decide +kernel
theorem dX8_statement_33 : decode cX8_statement 33 = .ok (.ldc 166, 2) := by decide +kernel
theorem dX8_statement_35 : decode cX8_statement 35 = .ok (.invokevirtual 127, 3) := by decide +kernel
theorem dX8_statement_38 : decode cX8_statement 38 = .ok (.ifCond .eq 10, 3) := by decide +kernel
theorem dX8_statement_41 : decode cX8_statement 41 = .ok (.aload_n 0, 1) := by decide +kernel
theorem dX8_statement_42 : decode cX8_statement 42 = .ok (.invokevirtual 168, 3) := by decide +kernel
theorem dX8_statement_45 : decode cX8_statement 45 = .ok (.goto 26, 3) := by decide +kernel
theorem dX8_statement_48 : decode cX8_statement 48 = .ok (.aload_n 0, 1) := by decide +kernel
theorem dX8_statement_49 : decode cX8_statement 49 = .ok (.ldc 171, 2) := by decide +kernel
theorem dX8_statement_51 : decode cX8_statement 51 = .ok (.invokevirtual 127, 3) := by decide +kernel
theorem dX8_statement_54 : decode cX8_statement 54 = .ok (.ifCond .eq 10, 3) := by decide +kernel
theorem dX8_statement_57 : decode cX8_statement 57 = .ok (.aload_n 0, 1) := by decide +kernel
theorem dX8_statement_58 : decode cX8_statement 58 = .ok (.invokevirtual 173, 3) := by decide +kernel
theorem dX8_statement_61 : decode cX8_statement 61 = .ok (.goto 10, 3) := by decide +kernel
theorem dX8_statement_64 : decode cX8_statement 64 = .ok (.aload_n 0, 1) := by decide +kernel
theorem dX8_statement_65 : decode cX8_statement 65 = .ok (.iconst 0, 1) := by decide +kernel
theorem dX8_statement_66 : decode cX8_statement 66 = .ok (.iconst 1, 1) := by decide +kernel
theorem dX8_statement_67 : decode cX8_statement 67 = .ok (.invokevirtual 107, 3) := by decide +kernel
theorem dX8_statement_70 : decode cX8_statement 70 = .ok (.pop, 1) := by decide +kernel
theorem dX8_statement_71 : decode cX8_statement 71 = .ok (.aload_n 0, 1) := by decide +kernel
theorem dX8_statement_72 : decode cX8_statement 72 = .ok (.aload_n 0, 1) := by decide +kernel
theorem dX8_statement_73 : decode cX8_statement 73 = .ok (.getfield 79, 3) := by decide +kernel
theorem dX8_statement_76 : decode cX8_statement 76 = .ok (.iconst 3, 1) := by decide +kernel
theorem dX8_statement_77 : decode cX8_statement 77 = .ok (.if_icmp .ne 7, 3) := by decide +kernel
theorem dX8_statement_80 : decode cX8_statement 80 = .ok (.iconst 1, 1) := by decide +kernel
theorem dX8_statement_81 : decode cX8_statement 81 = .ok (.goto 4, 3) := by decide +kernel
theorem dX8_statement_84 : decode cX8_statement 84 = .ok (.iconst 0, 1) := by decide +kernel
theorem dX8_statement_85 : decode cX8_statement 85 = .ok (.iconst 1, 1) := by decide +kernel
theorem dX8_statement_86 : decode cX8_statement 86 = .ok (.invokevirtual 107, 3) := by decide +kernel
theorem dX8_statement_89 : decode cX8_statement 89 = .ok (.ifCond .eq 7, 3) := by decide +kernel
theorem dX8_statement_92 : decode cX8_statement 92 = .ok (.aload_n 0, 1) := by decide +kernel
theorem dX8_statement_93 : decode cX8_statement 93 = .ok (.invokevirtual 104, 3) := by decide +kernel
theorem dX8_statement_96 : decode cX8_statement 96 = .ok (.return_, 1) := by decide +kernel
theorem dX8_parse_0 : decode cX8_parse 0 = .ok (.aload_n 0, 1) := by decide +kernel
theorem dX8_parse_1 : decode cX8_parse 1 = .ok (.iconst 0, 1) := by decide +kernel
theorem dX8_parse_2 : decode cX8_parse 2 = .ok (.putfield 55, 3) := by decide +kernel
theorem dX8_parse_5 : decode cX8_parse 5 = .ok (.iload_n 1, 1) := by decide +kernel
theorem dX8_parse_6 : decode cX8_parse 6 = .ok (.iconst 0, 1) := by decide +kernel
theorem dX8_parse_7 : decode cX8_parse 7 = .ok (.aload_n 0, 1) := by decide +kernel
theorem dX8_parse_8 : decode cX8_parse 8 = .ok (.getfield 59, 3) := by decide +kernel
theorem dX8_parse_11 : decode cX8_parse 11 = .ok (.invokestatic 82, 3) := by decide +kernel
theorem dX8_parse_14 : decode cX8_parse 14 = .ok (.ifCond .ne 9, 3) := by decide +kernel
theorem dX8_parse_17 : decode cX8_parse 17 = .ok (.aload_n 0, 1) := by decide +kernel
theorem dX8_parse_18 : decode cX8_parse 18 = .ok (.iconst 1, 1) := by decide +kernel
theorem dX8_parse_19 : decode cX8_parse 19 = .ok (.invokevirtual 176, 3) := by decide +kernel
theorem dX8_parse_22 : decode cX8_parse 22 = .ok (.ireturn, 1) := by decide +kernel
theorem dX8_parse_23 : decode cX8_parse 23 = .ok (.aload_n 0, 1) := by decide +kernel
theorem dX8_parse_24 : decode cX8_parse 24 = .ok (.iload_n 1, 1) := by decide +kernel
theorem dX8_parse_25 : decode cX8_parse 25 = .ok (.putfield 66, 3) := by decide +kernel
theorem dX8_parse_28 : decode cX8_parse 28 = .ok (.aload_n 0, 1) := by decide +kernel
theorem dX8_parse_29 : decode cX8_parse 29 = .ok (.iconst 0, 1) := by decide +kernel
theorem dX8_parse_30 : decode cX8_parse 30 = .ok (.putfield 59, 3) := by decide +kernel
theorem dX8_parse_33 : decode cX8_parse 33 = .ok (.aload_n 0, 1) := by decide +kernel
theorem dX8_parse_34 : decode cX8_parse 34 = .ok (.iconst 0, 1) := by decide +kernel
theorem dX8_parse_35 : decode cX8_parse 35 = .ok (.putfield 69, 3) := by decide +kernel
theorem dX8_parse_38 : decode cX8_parse 38 = .ok (.aload_n 0, 1) := by decide +kernel
theorem dX8_parse_39 : decode cX8_parse 39 = .ok (.iconst 0, 1) := by decide +kernel
theorem dX8_parse_40 : decode cX8_parse 40 = .ok (.putfield 89, 3) := by decide +kernel
theorem dX8_parse_43 : decode cX8_parse 43 = .ok (.aload_n 0, 1) := by decide +kernel
theorem dX8_parse_44 : decode cX8_parse 44 = .ok (.invokevirtual 49, 3) := by decide +kernel
theorem dX8_parse_47 : decode cX8_parse 47 = .ok (.aload_n 0, 1) := by decide +kernel
theorem dX8_parse_48 : decode cX8_parse 48 = .ok (.invokevirtual 104, 3) := by decide +kernel
theorem dX8_parse_51 : decode cX8_parse 51 = .ok (.aload_n 0, 1) := by decide +kernel
theorem dX8_parse_52 : decode cX8_parse 52 = .ok (.aload_n 0, 1) := by decide +kernel
theorem dX8_parse_53 : decode cX8_parse 53 = .ok (.ldc 179, 2) := by decide +kernel
theorem dX8_parse_55 : decode cX8_parse 55 = .ok (.invokevirtual 127, 3) := by decide +kernel
theorem dX8_parse_58 : decode cX8_parse 58 = .ok (.iconst 1, 1) := by decide +kernel
theorem dX8_parse_59 : decode cX8_parse 59 = .ok (.invokevirtual 107, 3) := by decide +kernel
theorem dX8_parse_62 : decode cX8_parse 62 = .ok (.pop, 1) := by decide +kernel
theorem dX8_parse_63 : decode cX8_parse 63 = .ok (.aload_n 0, 1) := by decide +kernel
theorem dX8_parse_64 : decode cX8_parse 64 = .ok (.invokevirtual 111, 3) := by decide +kernel
theorem dX8_parse_67 : decode cX8_parse 67 = .ok (.aload_n 0, 1) := by decide +kernel
theorem dX8_parse_68 : decode cX8_parse 68 = .ok (.getfield 13, 3) := by decide +kernel
theorem dX8_parse_71 : decode cX8_parse 71 = .ok (.iconst 3, 1) := by decide +kernel
theorem dX8_parse_72 : decode cX8_parse 72 = .ok (.aload_n 0, 1) := by decide +kernel
theorem dX8_parse_73 : decode cX8_parse 73 = .ok (.iconst 1, 1) := by decide +kernel
theorem dX8_parse_74 : decode cX8_parse 74 = .ok (.sipush 999, 3) := by decide +kernel
theorem dX8_parse_77 : decode cX8_parse 77 = .ok (.invokevirtual 141, 3) := by decide +kernel
theorem dX8_parse_80 : decode cX8_parse 80 = .ok (.iastore, 1) := by decide +kernel
theorem dX8_parse_81 : decode cX8_parse 81 = .ok (.aload_n 0, 1) := by decide +kernel
theorem dX8_parse_82 : decode cX8_parse 82 = .ok (.getfield 13, 3) := by decide +kernel
theorem dX8_parse_85 : decode cX8_parse 85 = .ok (.iconst 4, 1) := by decide +kernel
theorem dX8_parse_86 : decode cX8_parse 86 = .ok (.aload_n 0, 1) := by decide +kernel
theorem dX8_parse_87 : decode cX8_parse 87 = .ok (.iconst 1, 1) := by decide +kernel
theorem dX8_parse_88 : decode cX8_parse 88 = .ok (.bipush 8, 2) := by decide +kernel
theorem dX8_parse_90 : decode cX8_parse 90 = .ok (.invokevirtual 141, 3) := by decide +kernel
theorem dX8_parse_93 : decode cX8_parse 93 = .ok (.iastore, 1) := by decide +kernel
theorem dX8_parse_94 : decode cX8_parse 94 = .ok (.aload_n 0, 1) := by decide +kernel
theorem dX8_parse_95 : decode cX8_parse 95 = .ok (.aload_n 0, 1) := by decide +kernel
theorem dX8_parse_96 : decode cX8_parse 96 = .ok (.getfield 79, 3) := by decide +kernel
theorem dX8_parse_99 : decode cX8_parse 99 = .ok (.iconst 3, 1) := by decide +kernel
theorem dX8_parse_100 : decode cX8_parse 100 = .ok (.if_icmp .ne 7, 3) := by decide +kernel
theorem dX8_parse_103 : decode cX8_parse 103 = .ok (.iconst 1, 1) := by decide +kernel
theorem dX8_parse_104 : decode cX8_parse 104 = .ok (.goto 4, 3) := by decide +kernel
theorem dX8_parse_107 : decode cX8_parse 107 = .ok (.iconst 0, 1) := by decide +kernel
theorem dX8_parse_108 : decode cX8_parse 108 = .ok (.iconst 1, 1) := by decide +kernel
theorem dX8_parse_109 : decode cX8_parse 109 = .ok (.invokevirtual 107, 3) := by decide +kernel
theorem dX8_parse_112 : decode cX8_parse 112 = .ok (.ifCond .eq 7, 3) := by decide +kernel
theorem dX8_parse_115 : decode cX8_parse 115 = .ok (.aload_n 0, 1) := by decide +kernel
theorem dX8_parse_116 : decode cX8_parse 116 = .ok (.invokevirtual 104, 3) := by decide +kernel
theorem dX8_parse_119 : decode cX8_parse 119 = .ok (.aload_n 0, 1) := by decide +kernel
theorem dX8_parse_120 : decode cX8_parse 120 = .ok (.getfield 89, 3) := by decide +kernel
theorem dX8_parse_123 : decode cX8_parse 123 = .ok (.ifCond .ne 17, 3) := by decide +kernel
theorem dX8_parse_126 : decode cX8_parse 126 = .ok (.aload_n 0, 1) := by decide +kernel
theorem dX8_parse_127 : decode cX8_parse 127 = .ok (.getfield 79, 3) := by decide +kernel
theorem dX8_parse_130 : decode cX8_parse 130 = .ok (.ifCond .eq 10, 3) := by decide +kernel
theorem dX8_parse_133 : decode cX8_parse 133 = .ok (.aload_n 0, 1) := by decide +kernel
theorem dX8_parse_134 : decode cX8_parse 134 = .ok (.invokevirtual 181, 3) := by decide +kernel
theorem dX8_parse_137 : decode cX8_parse 137 = .ok (.goto (-18), 3) := by decide +kernel
theorem dX8_parse_140 : decode cX8_parse 140 = .ok (.aload_n 0, 1) := by decide +kernel
theorem dX8_parse_141 : decode cX8_parse 141 = .ok (.getfield 89, 3) := by decide +kernel
theorem dX8_parse_144 : decode cX8_parse 144 = .ok (.ifCond .eq 19, 3) := by decide +kernel
theorem dX8_parse_147 : decode cX8_parse 147 = .ok (.bipush (-2), 2) := by decide +kernel
theorem dX8_parse_149 : decode cX8_parse 149 = .ok (.bipush 8, 2) := by decide +kernel
theorem dX8_parse_151 : decode cX8_parse 151 = .ok (.aload_n 0, 1) := by decide +kernel
theorem dX8_parse_152 : decode cX8_parse 152 = .ok (.getfield 92, 3) := by decide +kernel
theorem dX8_parse_155 : decode cX8_parse 155 = .ok (.imul, 1) := by decide +kernel
theorem dX8_parse_156 : decode cX8_parse 156 = .ok (.aload_n 0, 1) := by decide +kernel
theorem dX8_parse_157 : decode cX8_parse 157 = .ok (.getfield 89, 3) := by decide +kernel
theorem dX8_parse_160 : decode cX8_parse 160 = .ok (.iadd, 1) := by decide +kernel
theorem dX8_parse_161 : decode cX8_parse 161 = .ok (.isub, 1) := by decide +kernel
theorem dX8_parse_162 : decode cX8_parse 162 = .ok (.ireturn, 1) := by decide +kernel
theorem dX8_parse_163 : decode cX8_parse 163 = .ok (.aload_n 0, 1) := by decide +kernel
theorem dX8_parse_164 : decode cX8_parse 164 = .ok (.invokevirtual 52, 3) := by decide +kernel
theorem dX8_parse_167 : decode cX8_parse 167 = .ok (.aload_n 0, 1) := by decide +kernel
theorem dX8_parse_168 : decode cX8_parse 168 = .ok (.invokevirtual 184, 3) := by decide +kernel
theorem dX8_parse_171 : decode cX8_parse 171 = .ok (.ireturn, 1) := by decide +kernel
theorem dX8_takeDraft_0 : decode cX8_takeDraft 0 = .ok (.iconst 0, 1) := by decide +kernel
theorem dX8_takeDraft_1 : decode cX8_takeDraft 1 = .ok (.istore_n 1, 1) := by decide +kernel
theorem dX8_takeDraft_2 : decode cX8_takeDraft 2 = .ok (.iload_n 1, 1) := by decide +kernel
theorem dX8_takeDraft_3 : decode cX8_takeDraft 3 = .ok (.bipush 107, 2) := by decide +kernel
theorem dX8_takeDraft_5 : decode cX8_takeDraft 5 = .ok (.if_icmp .ge 21, 3) := by decide +kernel
theorem dX8_takeDraft_8 : decode cX8_takeDraft 8 = .ok (.aload_n 0, 1) := by decide +kernel
theorem dX8_takeDraft_9 : decode cX8_takeDraft 9 = .ok (.getfield 17, 3) := by decide +kernel
theorem dX8_takeDraft_12 : decode cX8_takeDraft 12 = .ok (.iload_n 1, 1) := by decide +kernel
theorem dX8_takeDraft_13 : decode cX8_takeDraft 13 = .ok (.aload_n 0, 1) := by decide +kernel
theorem dX8_takeDraft_14 : decode cX8_takeDraft 14 = .ok (.getfield 13, 3) := by decide +kernel
theorem dX8_takeDraft_17 : decode cX8_takeDraft 17 = .ok (.iload_n 1, 1) := by decide +kernel
theorem dX8_takeDraft_18 : decode cX8_takeDraft 18 = .ok (.iaload, 1) := by decide +kernel
theorem dX8_takeDraft_19 : decode cX8_takeDraft 19 = .ok (.iastore, 1) := by decide +kernel
theorem dX8_takeDraft_20 : decode cX8_takeDraft 20 = .ok (.iinc 1 1, 3) := by decide +kernel
theorem dX8_takeDraft_23 : decode cX8_takeDraft 23 = .ok (.goto (-21), 3) := by decide +kernel
theorem dX8_takeDraft_26 : decode cX8_takeDraft 26 = .ok (.iconst 0, 1) := by decide +kernel
theorem dX8_takeDraft_27 : decode cX8_takeDraft 27 = .ok (.istore_n 1, 1) := by decide +kernel
theorem dX8_takeDraft_28 : decode cX8_takeDraft 28 = .ok (.iload_n 1, 1) := by decide +kernel
theorem dX8_takeDraft_29 : decode cX8_takeDraft 29 = .ok (.sipush 410, 3) := by decide +kernel
theorem dX8_takeDraft_32 : decode cX8_takeDraft 32 = .ok (.if_icmp .ge 16, 3) := by decide +kernel
theorem dX8_takeDraft_35 : decode cX8_takeDraft 35 = .ok (.aload_n 0, 1) := by decide +kernel
theorem dX8_takeDraft_36 : decode cX8_takeDraft 36 = .ok (.getfield 23, 3) := by decide +kernel
theorem dX8_takeDraft_39 : decode cX8_takeDraft 39 = .ok (.iload_n 1, 1) := by decide +kernel
theorem dX8_takeDraft_40 : decode cX8_takeDraft 40 = .ok (.iconst 0, 1) := by decide +kernel
theorem dX8_takeDraft_41 : decode cX8_takeDraft 41 = .ok (.iastore, 1) := by decide +kernel
theorem dX8_takeDraft_42 : decode cX8_takeDraft 42 = .ok (.iinc 1 1, 3) := by decide +kernel
theorem dX8_takeDraft_45 : decode cX8_takeDraft 45 = .ok (.goto (-17), 3) := by decide +kernel
theorem dX8_takeDraft_48 : decode cX8_takeDraft 48 = .ok (.iconst 0, 1) := by decide +kernel
theorem dX8_takeDraft_49 : decode cX8_takeDraft 49 = .ok (.istore_n 1, 1) := by decide +kernel
theorem dX8_takeDraft_50 : decode cX8_takeDraft 50 = .ok (.iload_n 1, 1) := by decide +kernel
theorem dX8_takeDraft_51 : decode cX8_takeDraft 51 = .ok (.bipush 12, 2) := by decide +kernel
theorem dX8_takeDraft_53 : decode cX8_takeDraft 53 = .ok (.if_icmp .ge 16, 3) := by decide +kernel
theorem dX8_takeDraft_56 : decode cX8_takeDraft 56 = .ok (.aload_n 0, 1) := by decide +kernel
theorem dX8_takeDraft_57 : decode cX8_takeDraft 57 = .ok (.getfield 26, 3) := by decide +kernel
theorem dX8_takeDraft_60 : decode cX8_takeDraft 60 = .ok (.iload_n 1, 1) := by decide +kernel
theorem dX8_takeDraft_61 : decode cX8_takeDraft 61 = .ok (.lconst 0, 1) := by decide +kernel
theorem dX8_takeDraft_62 : decode cX8_takeDraft 62 = .ok (.lastore, 1) := by decide +kernel
theorem dX8_takeDraft_63 : decode cX8_takeDraft 63 = .ok (.iinc 1 1, 3) := by decide +kernel
theorem dX8_takeDraft_66 : decode cX8_takeDraft 66 = .ok (.goto (-16), 3) := by decide +kernel
theorem dX8_takeDraft_69 : decode cX8_takeDraft 69 = .ok (.aload_n 0, 1) := by decide +kernel
theorem dX8_takeDraft_70 : decode cX8_takeDraft 70 = .ok (.getfield 23, 3) := by decide +kernel
theorem dX8_takeDraft_73 : decode cX8_takeDraft 73 = .ok (.iconst 1, 1) := by decide +kernel
theorem dX8_takeDraft_74 : decode cX8_takeDraft 74 = .ok (.aload_n 0, 1) := by decide +kernel
theorem dX8_takeDraft_75 : decode cX8_takeDraft 75 = .ok (.getfield 17, 3) := by decide +kernel
theorem dX8_takeDraft_78 : decode cX8_takeDraft 78 = .ok (.iconst 5, 1) := by decide +kernel
theorem dX8_takeDraft_79 : decode cX8_takeDraft 79 = .ok (.iaload, 1) := by decide +kernel
theorem dX8_takeDraft_80 : decode cX8_takeDraft 80 = .ok (.iastore, 1) := by decide +kernel
theorem dX8_takeDraft_81 : decode cX8_takeDraft 81 = .ok (.iconst 0, 1) := by decide +kernel
theorem dX8_takeDraft_82 : decode cX8_takeDraft 82 = .ok (.istore_n 1, 1) := by decide +kernel
theorem dX8_takeDraft_83 : decode cX8_takeDraft 83 = .ok (.iload_n 1, 1) := by decide +kernel
theorem dX8_takeDraft_84 : decode cX8_takeDraft 84 = .ok (.aload_n 0, 1) := by decide +kernel
theorem dX8_takeDraft_85 : decode cX8_takeDraft 85 = .ok (.invokevirtual 187, 3) := by decide +kernel
theorem dX8_takeDraft_88 : decode cX8_takeDraft 88 = .ok (.if_icmp .ge 29, 3) := by decide +kernel
theorem dX8_takeDraft_91 : decode cX8_takeDraft 91 = .ok (.aload_n 0, 1) := by decide +kernel
theorem dX8_takeDraft_92 : decode cX8_takeDraft 92 = .ok (.getfield 23, 3) := by decide +kernel
theorem dX8_takeDraft_95 : decode cX8_takeDraft 95 = .ok (.iload_n 1, 1) := by decide +kernel
theorem dX8_takeDraft_96 : decode cX8_takeDraft 96 = .ok (.invokestatic 190, 3) := by decide +kernel
theorem dX8_takeDraft_99 : decode cX8_takeDraft 99 = .ok (.iconst 0, 1) := by decide +kernel
theorem dX8_takeDraft_100 : decode cX8_takeDraft 100 = .ok (.iadd, 1) := by decide +kernel
theorem dX8_takeDraft_101 : decode cX8_takeDraft 101 = .ok (.aload_n 0, 1) := by decide +kernel
theorem dX8_takeDraft_102 : decode cX8_takeDraft 102 = .ok (.getfield 17, 3) := by decide +kernel
theorem dX8_takeDraft_105 : decode cX8_takeDraft 105 = .ok (.bipush 55, 2) := by decide +kernel
theorem dX8_takeDraft_107 : decode cX8_takeDraft 107 = .ok (.iload_n 1, 1) := by decide +kernel
theorem dX8_takeDraft_108 : decode cX8_takeDraft 108 = .ok (.iadd, 1) := by decide +kernel
theorem dX8_takeDraft_109 : decode cX8_takeDraft 109 = .ok (.iaload, 1) := by decide +kernel
theorem dX8_takeDraft_110 : decode cX8_takeDraft 110 = .ok (.iastore, 1) := by decide +kernel
theorem dX8_takeDraft_111 : decode cX8_takeDraft 111 = .ok (.iinc 1 1, 3) := by decide +kernel
theorem dX8_takeDraft_114 : decode cX8_takeDraft 114 = .ok (.goto (-31), 3) := by decide +kernel
theorem dX8_takeDraft_117 : decode cX8_takeDraft 117 = .ok (.iconst 0, 1) := by decide +kernel
theorem dX8_takeDraft_118 : decode cX8_takeDraft 118 = .ok (.istore_n 1, 1) := by decide +kernel
theorem dX8_takeDraft_119 : decode cX8_takeDraft 119 = .ok (.iload_n 1, 1) := by decide +kernel
theorem dX8_takeDraft_120 : decode cX8_takeDraft 120 = .ok (.aload_n 0, 1) := by decide +kernel
theorem dX8_takeDraft_121 : decode cX8_takeDraft 121 = .ok (.invokevirtual 184, 3) := by decide +kernel
theorem dX8_takeDraft_124 : decode cX8_takeDraft 124 = .ok (.if_icmp .ge 21, 3) := by decide +kernel
theorem dX8_takeDraft_127 : decode cX8_takeDraft 127 = .ok (.aload_n 0, 1) := by decide +kernel
theorem dX8_takeDraft_128 : decode cX8_takeDraft 128 = .ok (.getfield 23, 3) := by decide +kernel
theorem dX8_takeDraft_131 : decode cX8_takeDraft 131 = .ok (.iload_n 1, 1) := by decide +kernel
theorem dX8_takeDraft_132 : decode cX8_takeDraft 132 = .ok (.invokestatic 193, 3) := by decide +kernel
theorem dX8_takeDraft_135 : decode cX8_takeDraft 135 = .ok (.iconst 1, 1) := by decide +kernel
theorem dX8_takeDraft_136 : decode cX8_takeDraft 136 = .ok (.iadd, 1) := by decide +kernel
theorem dX8_takeDraft_137 : decode cX8_takeDraft 137 = .ok (.iconst (-1), 1) := by decide +kernel
theorem dX8_takeDraft_138 : decode cX8_takeDraft 138 = .ok (.iastore, 1) := by decide +kernel
theorem dX8_takeDraft_139 : decode cX8_takeDraft 139 = .ok (.iinc 1 1, 3) := by decide +kernel
theorem dX8_takeDraft_142 : decode cX8_takeDraft 142 = .ok (.goto (-23), 3) := by decide +kernel
theorem dX8_takeDraft_145 : decode cX8_takeDraft 145 = .ok (.aload_n 0, 1) := by decide +kernel
theorem dX8_takeDraft_146 : decode cX8_takeDraft 146 = .ok (.iconst 0, 1) := by decide +kernel
theorem dX8_takeDraft_147 : decode cX8_takeDraft 147 = .ok (.putfield 196, 3) := by decide +kernel
theorem dX8_takeDraft_150 : decode cX8_takeDraft 150 = .ok (.aload_n 0, 1) := by decide +kernel
theorem dX8_takeDraft_151 : decode cX8_takeDraft 151 = .ok (.getfield 42, 3) := by decide +kernel
theorem dX8_takeDraft_154 : decode cX8_takeDraft 154 = .ok (.iconst 0, 1) := by decide +kernel
theorem dX8_takeDraft_155 : decode cX8_takeDraft 155 = .ok (.iconst 0, 1) := by decide +kernel
theorem dX8_takeDraft_156 : decode cX8_takeDraft 156 = .ok (.bastore, 1) := by decide +kernel
theorem dX8_takeDraft_157 : decode cX8_takeDraft 157 = .ok (.aload_n 0, 1) := by decide +kernel
theorem dX8_takeDraft_158 : decode cX8_takeDraft 158 = .ok (.getfield 42, 3) := by decide +kernel
theorem dX8_takeDraft_161 : decode cX8_takeDraft 161 = .ok (.iconst 1, 1) := by decide +kernel
theorem dX8_takeDraft_162 : decode cX8_takeDraft 162 = .ok (.iconst 0, 1) := by decide +kernel
theorem dX8_takeDraft_163 : decode cX8_takeDraft 163 = .ok (.bastore, 1) := by decide +kernel
theorem dX8_takeDraft_164 : decode cX8_takeDraft 164 = .ok (.aload_n 0, 1) := by decide +kernel
theorem dX8_takeDraft_165 : decode cX8_takeDraft 165 = .ok (.invokevirtual 199, 3) := by decide +kernel
theorem dX8_takeDraft_168 : decode cX8_takeDraft 168 = .ok (.return_, 1) := by decide +kernel
theorem dX8_copy_0 : decode cX8_copy 0 = .ok (.iconst 0, 1) := by decide +kernel
theorem dX8_copy_1 : decode cX8_copy 1 = .ok (.istore 6, 2) := by decide +kernel
theorem dX8_copy_3 : decode cX8_copy 3 = .ok (.iload 6, 2) := by decide +kernel
theorem dX8_copy_5 : decode cX8_copy 5 = .ok (.sipush 410, 3) := by decide +kernel
theorem dX8_copy_8 : decode cX8_copy 8 = .ok (.if_icmp .ge 30, 3) := by decide +kernel
theorem dX8_copy_11 : decode cX8_copy 11 = .ok (.aload_n 3, 1) := by decide +kernel
theorem dX8_copy_12 : decode cX8_copy 12 = .ok (.sipush 410, 3) := by decide +kernel
theorem dX8_copy_15 : decode cX8_copy 15 = .ok (.iload 5, 2) := by decide +kernel
theorem dX8_copy_17 : decode cX8_copy 17 = .ok (.imul, 1) := by decide +kernel
theorem dX8_copy_18 : decode cX8_copy 18 = .ok (.iload 6, 2) := by decide +kernel
theorem dX8_copy_20 : decode cX8_copy 20 = .ok (.iadd, 1) := by decide +kernel
theorem dX8_copy_21 : decode cX8_copy 21 = .ok (.aload_n 0, 1) := by decide +kernel
theorem dX8_copy_22 : decode cX8_copy 22 = .ok (.sipush 410, 3) := by decide +kernel
theorem dX8_copy_25 : decode cX8_copy 25 = .ok (.iload_n 2, 1) := by decide +kernel
theorem dX8_copy_26 : decode cX8_copy 26 = .ok (.imul, 1) := by decide +kernel
theorem dX8_copy_27 : decode cX8_copy 27 = .ok (.iload 6, 2) := by decide +kernel
theorem dX8_copy_29 : decode cX8_copy 29 = .ok (.iadd, 1) := by decide +kernel
theorem dX8_copy_30 : decode cX8_copy 30 = .ok (.iaload, 1) := by decide +kernel
theorem dX8_copy_31 : decode cX8_copy 31 = .ok (.iastore, 1) := by decide +kernel
theorem dX8_copy_32 : decode cX8_copy 32 = .ok (.iinc 6 1, 3) := by decide +kernel
theorem dX8_copy_35 : decode cX8_copy 35 = .ok (.goto (-32), 3) := by decide +kernel
theorem dX8_copy_38 : decode cX8_copy 38 = .ok (.iconst 0, 1) := by decide +kernel
theorem dX8_copy_39 : decode cX8_copy 39 = .ok (.istore 6, 2) := by decide +kernel
theorem dX8_copy_41 : decode cX8_copy 41 = .ok (.iload 6, 2) := by decide +kernel
theorem dX8_copy_43 : decode cX8_copy 43 = .ok (.bipush 12, 2) := by decide +kernel
theorem dX8_copy_45 : decode cX8_copy 45 = .ok (.if_icmp .ge 29, 3) := by decide +kernel
theorem dX8_copy_48 : decode cX8_copy 48 = .ok (.aload 4, 2) := by decide +kernel
theorem dX8_copy_50 : decode cX8_copy 50 = .ok (.bipush 12, 2) := by decide +kernel
theorem dX8_copy_52 : decode cX8_copy 52 = .ok (.iload 5, 2) := by decide +kernel
theorem dX8_copy_54 : decode cX8_copy 54 = .ok (.imul, 1) := by decide +kernel
theorem dX8_copy_55 : decode cX8_copy 55 = .ok (.iload 6, 2) := by decide +kernel
theorem dX8_copy_57 : decode cX8_copy 57 = .ok (.iadd, 1) := by decide +kernel
theorem dX8_copy_58 : decode cX8_copy 58 = .ok (.aload_n 1, 1) := by decide +kernel
theorem dX8_copy_59 : decode cX8_copy 59 = .ok (.bipush 12, 2) := by decide +kernel
theorem dX8_copy_61 : decode cX8_copy 61 = .ok (.iload_n 2, 1) := by decide +kernel
theorem dX8_copy_62 : decode cX8_copy 62 = .ok (.imul, 1) := by decide +kernel
theorem dX8_copy_63 : decode cX8_copy 63 = .ok (.iload 6, 2) := by decide +kernel
theorem dX8_copy_65 : decode cX8_copy 65 = .ok (.iadd, 1) := by decide +kernel
theorem dX8_copy_66 : decode cX8_copy 66 = .ok (.laload, 1) := by decide +kernel
theorem dX8_copy_67 : decode cX8_copy 67 = .ok (.lastore, 1) := by decide +kernel
theorem dX8_copy_68 : decode cX8_copy 68 = .ok (.iinc 6 1, 3) := by decide +kernel
theorem dX8_copy_71 : decode cX8_copy 71 = .ok (.goto (-30), 3) := by decide +kernel
theorem dX8_copy_74 : decode cX8_copy 74 = .ok (.return_, 1) := by decide +kernel
theorem dX8_keep_0 : decode cX8_keep 0 = .ok (.aload_n 0, 1) := by decide +kernel
theorem dX8_keep_1 : decode cX8_keep 1 = .ok (.getfield 196, 3) := by decide +kernel
theorem dX8_keep_4 : decode cX8_keep 4 = .ok (.bipush 10, 2) := by decide +kernel
theorem dX8_keep_6 : decode cX8_keep 6 = .ok (.if_icmp .ne 50, 3) := by decide +kernel
theorem dX8_keep_9 : decode cX8_keep 9 = .ok (.iconst 1, 1) := by decide +kernel
theorem dX8_keep_10 : decode cX8_keep 10 = .ok (.istore_n 1, 1) := by decide +kernel
theorem dX8_keep_11 : decode cX8_keep 11 = .ok (.iload_n 1, 1) := by decide +kernel
theorem dX8_keep_12 : decode cX8_keep 12 = .ok (.bipush 10, 2) := by decide +kernel
theorem dX8_keep_14 : decode cX8_keep 14 = .ok (.if_icmp .ge 32, 3) := by decide +kernel
theorem dX8_keep_17 : decode cX8_keep 17 = .ok (.aload_n 0, 1) := by decide +kernel
theorem dX8_keep_18 : decode cX8_keep 18 = .ok (.getfield 30, 3) := by decide +kernel
theorem dX8_keep_21 : decode cX8_keep 21 = .ok (.aload_n 0, 1) := by decide +kernel
theorem dX8_keep_22 : decode cX8_keep 22 = .ok (.getfield 33, 3) := by decide +kernel
theorem dX8_keep_25 : decode cX8_keep 25 = .ok (.iload_n 1, 1) := by decide +kernel
theorem dX8_keep_26 : decode cX8_keep 26 = .ok (.aload_n 0, 1) := by decide +kernel
theorem dX8_keep_27 : decode cX8_keep 27 = .ok (.getfield 30, 3) := by decide +kernel
theorem dX8_keep_30 : decode cX8_keep 30 = .ok (.aload_n 0, 1) := by decide +kernel
theorem dX8_keep_31 : decode cX8_keep 31 = .ok (.getfield 33, 3) := by decide +kernel
theorem dX8_keep_34 : decode cX8_keep 34 = .ok (.iload_n 1, 1) := by decide +kernel
theorem dX8_keep_35 : decode cX8_keep 35 = .ok (.iconst 1, 1) := by decide +kernel
theorem dX8_keep_36 : decode cX8_keep 36 = .ok (.isub, 1) := by decide +kernel
theorem dX8_keep_37 : decode cX8_keep 37 = .ok (.invokestatic 202, 3) := by decide +kernel
theorem dX8_keep_40 : decode cX8_keep 40 = .ok (.iinc 1 1, 3) := by decide +kernel
theorem dX8_keep_43 : decode cX8_keep 43 = .ok (.goto (-32), 3) := by decide +kernel
theorem dX8_keep_46 : decode cX8_keep 46 = .ok (.aload_n 0, 1) := by decide +kernel
theorem dX8_keep_47 : decode cX8_keep 47 = .ok (.dup, 1) := by decide +kernel
theorem dX8_keep_48 : decode cX8_keep 48 = .ok (.getfield 196, 3) := by decide +kernel
theorem dX8_keep_51 : decode cX8_keep 51 = .ok (.iconst 1, 1) := by decide +kernel
theorem dX8_keep_52 : decode cX8_keep 52 = .ok (.isub, 1) := by decide +kernel
theorem dX8_keep_53 : decode cX8_keep 53 = .ok (.putfield 196, 3) := by decide +kernel
theorem dX8_keep_56 : decode cX8_keep 56 = .ok (.aload_n 0, 1) := by decide +kernel
theorem dX8_keep_57 : decode cX8_keep 57 = .ok (.getfield 23, 3) := by decide +kernel
theorem dX8_keep_60 : decode cX8_keep 60 = .ok (.aload_n 0, 1) := by decide +kernel
theorem dX8_keep_61 : decode cX8_keep 61 = .ok (.getfield 26, 3) := by decide +kernel
theorem dX8_keep_64 : decode cX8_keep 64 = .ok (.iconst 0, 1) := by decide +kernel
theorem dX8_keep_65 : decode cX8_keep 65 = .ok (.aload_n 0, 1) := by decide +kernel
theorem dX8_keep_66 : decode cX8_keep 66 = .ok (.getfield 30, 3) := by decide +kernel
theorem dX8_keep_69 : decode cX8_keep 69 = .ok (.aload_n 0, 1) := by decide +kernel
theorem dX8_keep_70 : decode cX8_keep 70 = .ok (.getfield 33, 3) := by decide +kernel
theorem dX8_keep_73 : decode cX8_keep 73 = .ok (.aload_n 0, 1) := by decide +kernel
theorem dX8_keep_74 : decode cX8_keep 74 = .ok (.getfield 196, 3) := by decide +kernel
theorem dX8_keep_77 : decode cX8_keep 77 = .ok (.invokestatic 202, 3) := by decide +kernel
theorem dX8_keep_80 : decode cX8_keep 80 = .ok (.aload_n 0, 1) := by decide +kernel
theorem dX8_keep_81 : decode cX8_keep 81 = .ok (.dup, 1) := by decide +kernel
theorem dX8_keep_82 : decode cX8_keep 82 = .ok (.getfield 196, 3) := by decide +kernel
theorem dX8_keep_85 : decode cX8_keep 85 = .ok (.iconst 1, 1) := by decide +kernel
theorem dX8_keep_86 : decode cX8_keep 86 = .ok (.iadd, 1) := by decide +kernel
theorem dX8_keep_87 : decode cX8_keep 87 = .ok (.putfield 196, 3) := by decide +kernel
theorem dX8_keep_90 : decode cX8_keep 90 = .ok (.return_, 1) := by decide +kernel
theorem dX8_devices_0 : decode cX8_devices 0 = .ok (.aload_n 0, 1) := by decide +kernel
theorem dX8_devices_1 : decode cX8_devices 1 = .ok (.getfield 17, 3) := by decide +kernel
theorem dX8_devices_4 : decode cX8_devices 4 = .ok (.iconst 1, 1) := by decide +kernel
theorem dX8_devices_5 : decode cX8_devices 5 = .ok (.iaload, 1) := by decide +kernel
theorem dX8_devices_6 : decode cX8_devices 6 = .ok (.ireturn, 1) := by decide +kernel
theorem dX8_streams_0 : decode cX8_streams 0 = .ok (.aload_n 0, 1) := by decide +kernel
theorem dX8_streams_1 : decode cX8_streams 1 = .ok (.getfield 17, 3) := by decide +kernel
theorem dX8_streams_4 : decode cX8_streams 4 = .ok (.iconst 2, 1) := by decide +kernel
theorem dX8_streams_5 : decode cX8_streams 5 = .ok (.iaload, 1) := by decide +kernel
theorem dX8_streams_6 : decode cX8_streams 6 = .ok (.ireturn, 1) := by decide +kernel
theorem dX8_isDevice_0 : decode cX8_isDevice 0 = .ok (.iload_n 1, 1) := by decide +kernel
theorem dX8_isDevice_1 : decode cX8_isDevice 1 = .ok (.iconst 0, 1) := by decide +kernel
theorem dX8_isDevice_2 : decode cX8_isDevice 2 = .ok (.aload_n 0, 1) := by decide +kernel
theorem dX8_isDevice_3 : decode cX8_isDevice 3 = .ok (.invokevirtual 187, 3) := by decide +kernel
theorem dX8_isDevice_6 : decode cX8_isDevice 6 = .ok (.iconst 1, 1) := by decide +kernel
theorem dX8_isDevice_7 : decode cX8_isDevice 7 = .ok (.isub, 1) := by decide +kernel
theorem dX8_isDevice_8 : decode cX8_isDevice 8 = .ok (.invokestatic 82, 3) := by decide +kernel
theorem dX8_isDevice_11 : decode cX8_isDevice 11 = .ok (.ireturn, 1) := by decide +kernel
theorem dX8_isStream_0 : decode cX8_isStream 0 = .ok (.iload_n 1, 1) := by decide +kernel
theorem dX8_isStream_1 : decode cX8_isStream 1 = .ok (.iconst 0, 1) := by decide +kernel
theorem dX8_isStream_2 : decode cX8_isStream 2 = .ok (.aload_n 0, 1) := by decide +kernel
theorem dX8_isStream_3 : decode cX8_isStream 3 = .ok (.invokevirtual 184, 3) := by decide +kernel
theorem dX8_isStream_6 : decode cX8_isStream 6 = .ok (.iconst 1, 1) := by decide +kernel
theorem dX8_isStream_7 : decode cX8_isStream 7 = .ok (.isub, 1) := by decide +kernel
theorem dX8_isStream_8 : decode cX8_isStream 8 = .ok (.invokestatic 82, 3) := by decide +kernel
theorem dX8_isStream_11 : decode cX8_isStream 11 = .ok (.ireturn, 1) := by decide +kernel
theorem dX8_at_0 : decode cX8_at 0 = .ok (.bipush 14, 2) := by decide +kernel
theorem dX8_at_2 : decode cX8_at 2 = .ok (.bipush 28, 2) := by decide +kernel
theorem dX8_at_4 : decode cX8_at 4 = .ok (.iload_n 0, 1) := by decide +kernel
theorem dX8_at_5 : decode cX8_at 5 = .ok (.imul, 1) := by decide +kernel
theorem dX8_at_6 : decode cX8_at 6 = .ok (.iadd, 1) := by decide +kernel
theorem dX8_at_7 : decode cX8_at 7 = .ok (.ireturn, 1) := by decide +kernel
theorem dX8_in_0 : decode cX8_in 0 = .ok (.sipush 238, 3) := by decide +kernel
theorem dX8_in_3 : decode cX8_in 3 = .ok (.iconst 3, 1) := by decide +kernel
theorem dX8_in_4 : decode cX8_in 4 = .ok (.iload_n 0, 1) := by decide +kernel
theorem dX8_in_5 : decode cX8_in 5 = .ok (.imul, 1) := by decide +kernel
theorem dX8_in_6 : decode cX8_in 6 = .ok (.iadd, 1) := by decide +kernel
theorem dX8_in_7 : decode cX8_in 7 = .ok (.ireturn, 1) := by decide +kernel
theorem dX8_isPlugged_0 : decode cX8_isPlugged 0 = .ok (.aload_n 0, 1) := by decide +kernel
theorem dX8_isPlugged_1 : decode cX8_isPlugged 1 = .ok (.getfield 23, 3) := by decide +kernel
theorem dX8_isPlugged_4 : decode cX8_isPlugged 4 = .ok (.iload_n 1, 1) := by decide +kernel
theorem dX8_isPlugged_5 : decode cX8_isPlugged 5 = .ok (.invokestatic 190, 3) := by decide +kernel
theorem dX8_isPlugged_8 : decode cX8_isPlugged 8 = .ok (.iconst 0, 1) := by decide +kernel
theorem dX8_isPlugged_9 : decode cX8_isPlugged 9 = .ok (.iadd, 1) := by decide +kernel
theorem dX8_isPlugged_10 : decode cX8_isPlugged 10 = .ok (.iaload, 1) := by decide +kernel
theorem dX8_isPlugged_11 : decode cX8_isPlugged 11 = .ok (.iconst (-1), 1) := by decide +kernel
theorem dX8_isPlugged_12 : decode cX8_isPlugged 12 = .ok (.if_icmp .eq 7, 3) := by decide +kernel
theorem dX8_isPlugged_15 : decode cX8_isPlugged 15 = .ok (.iconst 1, 1) := by decide +kernel
theorem dX8_isPlugged_16 : decode cX8_isPlugged 16 = .ok (.goto 4, 3) := by decide +kernel
theorem dX8_isPlugged_19 : decode cX8_isPlugged 19 = .ok (.iconst 0, 1) := by decide +kernel
theorem dX8_isPlugged_20 : decode cX8_isPlugged 20 = .ok (.ireturn, 1) := by decide +kernel
theorem dX8_isAlarmed_0 : decode cX8_isAlarmed 0 = .ok (.aload_n 0, 1) := by decide +kernel
theorem dX8_isAlarmed_1 : decode cX8_isAlarmed 1 = .ok (.getfield 23, 3) := by decide +kernel
theorem dX8_isAlarmed_4 : decode cX8_isAlarmed 4 = .ok (.iload_n 1, 1) := by decide +kernel
theorem dX8_isAlarmed_5 : decode cX8_isAlarmed 5 = .ok (.invokestatic 190, 3) := by decide +kernel
theorem dX8_isAlarmed_8 : decode cX8_isAlarmed 8 = .ok (.iconst 1, 1) := by decide +kernel
theorem dX8_isAlarmed_9 : decode cX8_isAlarmed 9 = .ok (.iadd, 1) := by decide +kernel
theorem dX8_isAlarmed_10 : decode cX8_isAlarmed 10 = .ok (.iaload, 1) := by decide +kernel
theorem dX8_isAlarmed_11 : decode cX8_isAlarmed 11 = .ok (.iconst 1, 1) := by decide +kernel
theorem dX8_isAlarmed_12 : decode cX8_isAlarmed 12 = .ok (.if_icmp .ne 7, 3) := by decide +kernel
theorem dX8_isAlarmed_15 : decode cX8_isAlarmed 15 = .ok (.iconst 1, 1) := by decide +kernel
theorem dX8_isAlarmed_16 : decode cX8_isAlarmed 16 = .ok (.goto 4, 3) := by decide +kernel
theorem dX8_isAlarmed_19 : decode cX8_isAlarmed 19 = .ok (.iconst 0, 1) := by decide +kernel
theorem dX8_isAlarmed_20 : decode cX8_isAlarmed 20 = .ok (.ireturn, 1) := by decide +kernel
theorem dX8_isGood_0 : decode cX8_isGood 0 = .ok (.aload_n 0, 1) := by decide +kernel
theorem dX8_isGood_1 : decode cX8_isGood 1 = .ok (.iload_n 1, 1) := by decide +kernel
theorem dX8_isGood_2 : decode cX8_isGood 2 = .ok (.invokevirtual 206, 3) := by decide +kernel
theorem dX8_isGood_5 : decode cX8_isGood 5 = .ok (.ifCond .eq 15, 3) := by decide +kernel
theorem dX8_isGood_8 : decode cX8_isGood 8 = .ok (.aload_n 0, 1) := by decide +kernel
theorem dX8_isGood_9 : decode cX8_isGood 9 = .ok (.iload_n 1, 1) := by decide +kernel
theorem dX8_isGood_10 : decode cX8_isGood 10 = .ok (.invokevirtual 209, 3) := by decide +kernel
theorem dX8_isGood_13 : decode cX8_isGood 13 = .ok (.ifCond .ne 7, 3) := by decide +kernel
theorem dX8_isGood_16 : decode cX8_isGood 16 = .ok (.iconst 1, 1) := by decide +kernel
theorem dX8_isGood_17 : decode cX8_isGood 17 = .ok (.goto 4, 3) := by decide +kernel
theorem dX8_isGood_20 : decode cX8_isGood 20 = .ok (.iconst 0, 1) := by decide +kernel
theorem dX8_isGood_21 : decode cX8_isGood 21 = .ok (.ireturn, 1) := by decide +kernel
theorem dX8_homeOf_0 : decode cX8_homeOf 0 = .ok (.aload_n 0, 1) := by decide +kernel
theorem dX8_homeOf_1 : decode cX8_homeOf 1 = .ok (.getfield 17, 3) := by decide +kernel
theorem dX8_homeOf_4 : decode cX8_homeOf 4 = .ok (.bipush 71, 2) := by decide +kernel
theorem dX8_homeOf_6 : decode cX8_homeOf 6 = .ok (.iconst 3, 1) := by decide +kernel
theorem dX8_homeOf_7 : decode cX8_homeOf 7 = .ok (.iload_n 1, 1) := by decide +kernel
theorem dX8_homeOf_8 : decode cX8_homeOf 8 = .ok (.imul, 1) := by decide +kernel
theorem dX8_homeOf_9 : decode cX8_homeOf 9 = .ok (.iadd, 1) := by decide +kernel
theorem dX8_homeOf_10 : decode cX8_homeOf 10 = .ok (.iaload, 1) := by decide +kernel
theorem dX8_homeOf_11 : decode cX8_homeOf 11 = .ok (.ireturn, 1) := by decide +kernel
theorem dX8_rateOf_0 : decode cX8_rateOf 0 = .ok (.aload_n 0, 1) := by decide +kernel
theorem dX8_rateOf_1 : decode cX8_rateOf 1 = .ok (.getfield 17, 3) := by decide +kernel
theorem dX8_rateOf_4 : decode cX8_rateOf 4 = .ok (.bipush 71, 2) := by decide +kernel
theorem dX8_rateOf_6 : decode cX8_rateOf 6 = .ok (.iconst 3, 1) := by decide +kernel
theorem dX8_rateOf_7 : decode cX8_rateOf 7 = .ok (.iload_n 1, 1) := by decide +kernel
theorem dX8_rateOf_8 : decode cX8_rateOf 8 = .ok (.imul, 1) := by decide +kernel
theorem dX8_rateOf_9 : decode cX8_rateOf 9 = .ok (.iadd, 1) := by decide +kernel
theorem dX8_rateOf_10 : decode cX8_rateOf 10 = .ok (.iconst 1, 1) := by decide +kernel
theorem dX8_rateOf_11 : decode cX8_rateOf 11 = .ok (.iadd, 1) := by decide +kernel
theorem dX8_rateOf_12 : decode cX8_rateOf 12 = .ok (.iaload, 1) := by decide +kernel
theorem dX8_rateOf_13 : decode cX8_rateOf 13 = .ok (.ireturn, 1) := by decide +kernel
theorem dX8_packetOf_0 : decode cX8_packetOf 0 = .ok (.aload_n 0, 1) := by decide +kernel
theorem dX8_packetOf_1 : decode cX8_packetOf 1 = .ok (.getfield 17, 3) := by decide +kernel
theorem dX8_packetOf_4 : decode cX8_packetOf 4 = .ok (.bipush 71, 2) := by decide +kernel
theorem dX8_packetOf_6 : decode cX8_packetOf 6 = .ok (.iconst 3, 1) := by decide +kernel
theorem dX8_packetOf_7 : decode cX8_packetOf 7 = .ok (.iload_n 1, 1) := by decide +kernel
theorem dX8_packetOf_8 : decode cX8_packetOf 8 = .ok (.imul, 1) := by decide +kernel
theorem dX8_packetOf_9 : decode cX8_packetOf 9 = .ok (.iadd, 1) := by decide +kernel
theorem dX8_packetOf_10 : decode cX8_packetOf 10 = .ok (.iconst 2, 1) := by decide +kernel
theorem dX8_packetOf_11 : decode cX8_packetOf 11 = .ok (.iadd, 1) := by decide +kernel
theorem dX8_packetOf_12 : decode cX8_packetOf 12 = .ok (.iaload, 1) := by decide +kernel
theorem dX8_packetOf_13 : decode cX8_packetOf 13 = .ok (.ireturn, 1) := by decide +kernel
theorem dX8_wanted_0 : decode cX8_wanted 0 = .ok (.aload_n 0, 1) := by decide +kernel
theorem dX8_wanted_1 : decode cX8_wanted 1 = .ok (.iload_n 1, 1) := by decide +kernel
theorem dX8_wanted_2 : decode cX8_wanted 2 = .ok (.invokevirtual 212, 3) := by decide +kernel
theorem dX8_wanted_5 : decode cX8_wanted 5 = .ok (.istore_n 2, 1) := by decide +kernel
theorem dX8_wanted_6 : decode cX8_wanted 6 = .ok (.aload_n 0, 1) := by decide +kernel
theorem dX8_wanted_7 : decode cX8_wanted 7 = .ok (.iload_n 2, 1) := by decide +kernel
theorem dX8_wanted_8 : decode cX8_wanted 8 = .ok (.invokevirtual 215, 3) := by decide +kernel
theorem dX8_wanted_11 : decode cX8_wanted 11 = .ok (.ifCond .eq 5, 3) := by decide +kernel
theorem dX8_wanted_14 : decode cX8_wanted 14 = .ok (.iload_n 2, 1) := by decide +kernel
theorem dX8_wanted_15 : decode cX8_wanted 15 = .ok (.ireturn, 1) := by decide +kernel
theorem dX8_wanted_16 : decode cX8_wanted 16 = .ok (.aload_n 0, 1) := by decide +kernel
theorem dX8_wanted_17 : decode cX8_wanted 17 = .ok (.getfield 17, 3) := by decide +kernel
theorem dX8_wanted_20 : decode cX8_wanted 20 = .ok (.bipush 63, 2) := by decide +kernel
theorem dX8_wanted_22 : decode cX8_wanted 22 = .ok (.iload_n 2, 1) := by decide +kernel
theorem dX8_wanted_23 : decode cX8_wanted 23 = .ok (.iadd, 1) := by decide +kernel
theorem dX8_wanted_24 : decode cX8_wanted 24 = .ok (.iaload, 1) := by decide +kernel
theorem dX8_wanted_25 : decode cX8_wanted 25 = .ok (.istore_n 3, 1) := by decide +kernel
theorem dX8_wanted_26 : decode cX8_wanted 26 = .ok (.iload_n 3, 1) := by decide +kernel
theorem dX8_wanted_27 : decode cX8_wanted 27 = .ok (.iconst (-1), 1) := by decide +kernel
theorem dX8_wanted_28 : decode cX8_wanted 28 = .ok (.if_icmp .eq 15, 3) := by decide +kernel
theorem dX8_wanted_31 : decode cX8_wanted 31 = .ok (.aload_n 0, 1) := by decide +kernel
theorem dX8_wanted_32 : decode cX8_wanted 32 = .ok (.iload_n 3, 1) := by decide +kernel
theorem dX8_wanted_33 : decode cX8_wanted 33 = .ok (.invokevirtual 215, 3) := by decide +kernel
theorem dX8_wanted_36 : decode cX8_wanted 36 = .ok (.ifCond .eq 7, 3) := by decide +kernel
theorem dX8_wanted_39 : decode cX8_wanted 39 = .ok (.iload_n 3, 1) := by decide +kernel
theorem dX8_wanted_40 : decode cX8_wanted 40 = .ok (.goto 4, 3) := by decide +kernel
theorem dX8_wanted_43 : decode cX8_wanted 43 = .ok (.iconst (-1), 1) := by decide +kernel
theorem dX8_wanted_44 : decode cX8_wanted 44 = .ok (.ireturn, 1) := by decide +kernel
theorem dX8_reserved_0 : decode cX8_reserved 0 = .ok (.iconst 0, 1) := by decide +kernel
theorem dX8_reserved_1 : decode cX8_reserved 1 = .ok (.istore_n 1, 1) := by decide +kernel
theorem dX8_reserved_2 : decode cX8_reserved 2 = .ok (.iconst 0, 1) := by decide +kernel
theorem dX8_reserved_3 : decode cX8_reserved 3 = .ok (.istore_n 2, 1) := by decide +kernel
theorem dX8_reserved_4 : decode cX8_reserved 4 = .ok (.iload_n 2, 1) := by decide +kernel
theorem dX8_reserved_5 : decode cX8_reserved 5 = .ok (.aload_n 0, 1) := by decide +kernel
theorem dX8_reserved_6 : decode cX8_reserved 6 = .ok (.invokevirtual 184, 3) := by decide +kernel
theorem dX8_reserved_9 : decode cX8_reserved 9 = .ok (.if_icmp .ge 33, 3) := by decide +kernel
theorem dX8_reserved_12 : decode cX8_reserved 12 = .ok (.iload_n 1, 1) := by decide +kernel
theorem dX8_reserved_13 : decode cX8_reserved 13 = .ok (.aload_n 0, 1) := by decide +kernel
theorem dX8_reserved_14 : decode cX8_reserved 14 = .ok (.getfield 23, 3) := by decide +kernel
theorem dX8_reserved_17 : decode cX8_reserved 17 = .ok (.iload_n 2, 1) := by decide +kernel
theorem dX8_reserved_18 : decode cX8_reserved 18 = .ok (.invokestatic 193, 3) := by decide +kernel
theorem dX8_reserved_21 : decode cX8_reserved 21 = .ok (.iaload, 1) := by decide +kernel
theorem dX8_reserved_22 : decode cX8_reserved 22 = .ok (.ifCond .ne 7, 3) := by decide +kernel
theorem dX8_reserved_25 : decode cX8_reserved 25 = .ok (.iconst 0, 1) := by decide +kernel
theorem dX8_reserved_26 : decode cX8_reserved 26 = .ok (.goto 8, 3) := by decide +kernel
theorem dX8_reserved_29 : decode cX8_reserved 29 = .ok (.aload_n 0, 1) := by decide +kernel
theorem dX8_reserved_30 : decode cX8_reserved 30 = .ok (.iload_n 2, 1) := by decide +kernel
theorem dX8_reserved_31 : decode cX8_reserved 31 = .ok (.invokevirtual 218, 3) := by decide +kernel
theorem dX8_reserved_34 : decode cX8_reserved 34 = .ok (.iadd, 1) := by decide +kernel
theorem dX8_reserved_35 : decode cX8_reserved 35 = .ok (.istore_n 1, 1) := by decide +kernel
theorem dX8_reserved_36 : decode cX8_reserved 36 = .ok (.iinc 2 1, 3) := by decide +kernel
theorem dX8_reserved_39 : decode cX8_reserved 39 = .ok (.goto (-35), 3) := by decide +kernel
theorem dX8_reserved_42 : decode cX8_reserved 42 = .ok (.iload_n 1, 1) := by decide +kernel
theorem dX8_reserved_43 : decode cX8_reserved 43 = .ok (.ireturn, 1) := by decide +kernel
theorem dX8_happens_0 : decode cX8_happens 0 = .ok (.sipush 338, 3) := by decide +kernel
theorem dX8_happens_3 : decode cX8_happens 3 = .ok (.iconst 3, 1) := by decide +kernel
theorem dX8_happens_4 : decode cX8_happens 4 = .ok (.aload_n 0, 1) := by decide +kernel
theorem dX8_happens_5 : decode cX8_happens 5 = .ok (.getfield 23, 3) := by decide +kernel
theorem dX8_happens_8 : decode cX8_happens 8 = .ok (.bipush 12, 2) := by decide +kernel
theorem dX8_happens_10 : decode cX8_happens 10 = .ok (.iaload, 1) := by decide +kernel
theorem dX8_happens_11 : decode cX8_happens 11 = .ok (.bipush 24, 2) := by decide +kernel
theorem dX8_happens_13 : decode cX8_happens 13 = .ok (.irem, 1) := by decide +kernel
theorem dX8_happens_14 : decode cX8_happens 14 = .ok (.imul, 1) := by decide +kernel
theorem dX8_happens_15 : decode cX8_happens 15 = .ok (.iadd, 1) := by decide +kernel
theorem dX8_happens_16 : decode cX8_happens 16 = .ok (.istore_n 3, 1) := by decide +kernel
theorem dX8_happens_17 : decode cX8_happens 17 = .ok (.aload_n 0, 1) := by decide +kernel
theorem dX8_happens_18 : decode cX8_happens 18 = .ok (.getfield 23, 3) := by decide +kernel
theorem dX8_happens_21 : decode cX8_happens 21 = .ok (.iload_n 3, 1) := by decide +kernel
theorem dX8_happens_22 : decode cX8_happens 22 = .ok (.iload_n 1, 1) := by decide +kernel
theorem dX8_happens_23 : decode cX8_happens 23 = .ok (.iastore, 1) := by decide +kernel
theorem dX8_happens_24 : decode cX8_happens 24 = .ok (.aload_n 0, 1) := by decide +kernel
theorem dX8_happens_25 : decode cX8_happens 25 = .ok (.getfield 23, 3) := by decide +kernel
theorem dX8_happens_28 : decode cX8_happens 28 = .ok (.iload_n 3, 1) := by decide +kernel
theorem dX8_happens_29 : decode cX8_happens 29 = .ok (.iconst 1, 1) := by decide +kernel
theorem dX8_happens_30 : decode cX8_happens 30 = .ok (.iadd, 1) := by decide +kernel
theorem dX8_happens_31 : decode cX8_happens 31 = .ok (.iload_n 2, 1) := by decide +kernel
theorem dX8_happens_32 : decode cX8_happens 32 = .ok (.iastore, 1) := by decide +kernel
theorem dX8_happens_33 : decode cX8_happens 33 = .ok (.aload_n 0, 1) := by decide +kernel
theorem dX8_happens_34 : decode cX8_happens 34 = .ok (.getfield 23, 3) := by decide +kernel
theorem dX8_happens_37 : decode cX8_happens 37 = .ok (.iload_n 3, 1) := by decide +kernel
theorem dX8_happens_38 : decode cX8_happens 38 = .ok (.iconst 2, 1) := by decide +kernel
theorem dX8_happens_39 : decode cX8_happens 39 = .ok (.iadd, 1) := by decide +kernel
theorem dX8_happens_40 : decode cX8_happens 40 = .ok (.aload_n 0, 1) := by decide +kernel
theorem dX8_happens_41 : decode cX8_happens 41 = .ok (.getfield 23, 3) := by decide +kernel
theorem dX8_happens_44 : decode cX8_happens 44 = .ok (.iconst 0, 1) := by decide +kernel
theorem dX8_happens_45 : decode cX8_happens 45 = .ok (.iaload, 1) := by decide +kernel
theorem dX8_happens_46 : decode cX8_happens 46 = .ok (.iastore, 1) := by decide +kernel
theorem dX8_happens_47 : decode cX8_happens 47 = .ok (.aload_n 0, 1) := by decide +kernel
theorem dX8_happens_48 : decode cX8_happens 48 = .ok (.getfield 23, 3) := by decide +kernel
theorem dX8_happens_51 : decode cX8_happens 51 = .ok (.bipush 12, 2) := by decide +kernel
theorem dX8_happens_53 : decode cX8_happens 53 = .ok (.dup2, 1) := by decide +kernel
theorem dX8_happens_54 : decode cX8_happens 54 = .ok (.iaload, 1) := by decide +kernel
theorem dX8_happens_55 : decode cX8_happens 55 = .ok (.iconst 1, 1) := by decide +kernel
theorem dX8_happens_56 : decode cX8_happens 56 = .ok (.iadd, 1) := by decide +kernel
theorem dX8_happens_57 : decode cX8_happens 57 = .ok (.iastore, 1) := by decide +kernel
theorem dX8_happens_58 : decode cX8_happens 58 = .ok (.aload_n 0, 1) := by decide +kernel
theorem dX8_happens_59 : decode cX8_happens 59 = .ok (.getfield 23, 3) := by decide +kernel
theorem dX8_happens_62 : decode cX8_happens 62 = .ok (.iconst 2, 1) := by decide +kernel
theorem dX8_happens_63 : decode cX8_happens 63 = .ok (.iload_n 1, 1) := by decide +kernel
theorem dX8_happens_64 : decode cX8_happens 64 = .ok (.iadd, 1) := by decide +kernel
theorem dX8_happens_65 : decode cX8_happens 65 = .ok (.dup2, 1) := by decide +kernel
theorem dX8_happens_66 : decode cX8_happens 66 = .ok (.iaload, 1) := by decide +kernel
theorem dX8_happens_67 : decode cX8_happens 67 = .ok (.iconst 1, 1) := by decide +kernel
theorem dX8_happens_68 : decode cX8_happens 68 = .ok (.iadd, 1) := by decide +kernel
theorem dX8_happens_69 : decode cX8_happens 69 = .ok (.iastore, 1) := by decide +kernel
theorem dX8_happens_70 : decode cX8_happens 70 = .ok (.return_, 1) := by decide +kernel
theorem dX8_becomes_0 : decode cX8_becomes 0 = .ok (.aload_n 0, 1) := by decide +kernel
theorem dX8_becomes_1 : decode cX8_becomes 1 = .ok (.getfield 23, 3) := by decide +kernel
theorem dX8_becomes_4 : decode cX8_becomes 4 = .ok (.iload_n 1, 1) := by decide +kernel
theorem dX8_becomes_5 : decode cX8_becomes 5 = .ok (.invokestatic 193, 3) := by decide +kernel
theorem dX8_becomes_8 : decode cX8_becomes 8 = .ok (.iload_n 2, 1) := by decide +kernel
theorem dX8_becomes_9 : decode cX8_becomes 9 = .ok (.iastore, 1) := by decide +kernel
theorem dX8_becomes_10 : decode cX8_becomes 10 = .ok (.aload_n 0, 1) := by decide +kernel
theorem dX8_becomes_11 : decode cX8_becomes 11 = .ok (.getfield 23, 3) := by decide +kernel
theorem dX8_becomes_14 : decode cX8_becomes 14 = .ok (.iload_n 1, 1) := by decide +kernel
theorem dX8_becomes_15 : decode cX8_becomes 15 = .ok (.invokestatic 193, 3) := by decide +kernel
theorem dX8_becomes_18 : decode cX8_becomes 18 = .ok (.iconst 1, 1) := by decide +kernel
theorem dX8_becomes_19 : decode cX8_becomes 19 = .ok (.iadd, 1) := by decide +kernel
theorem dX8_becomes_20 : decode cX8_becomes 20 = .ok (.iload_n 3, 1) := by decide +kernel
theorem dX8_becomes_21 : decode cX8_becomes 21 = .ok (.iastore, 1) := by decide +kernel
theorem dX8_becomes_22 : decode cX8_becomes 22 = .ok (.return_, 1) := by decide +kernel
theorem dX8_settles_0 : decode cX8_settles 0 = .ok (.iconst 0, 1) := by decide +kernel
theorem dX8_settles_1 : decode cX8_settles 1 = .ok (.istore_n 1, 1) := by decide +kernel
theorem dX8_settles_2 : decode cX8_settles 2 = .ok (.iload_n 1, 1) := by decide +kernel
theorem dX8_settles_3 : decode cX8_settles 3 = .ok (.aload_n 0, 1) := by decide +kernel
theorem dX8_settles_4 : decode cX8_settles 4 = .ok (.invokevirtual 184, 3) := by decide +kernel
theorem dX8_settles_7 : decode cX8_settles 7 = .ok (.if_icmp .ge 26, 3) := by decide +kernel
theorem dX8_settles_10 : decode cX8_settles 10 = .ok (.aload_n 0, 1) := by decide +kernel
theorem dX8_settles_11 : decode cX8_settles 11 = .ok (.getfield 23, 3) := by decide +kernel
theorem dX8_settles_14 : decode cX8_settles 14 = .ok (.iload_n 1, 1) := by decide +kernel
theorem dX8_settles_15 : decode cX8_settles 15 = .ok (.invokestatic 193, 3) := by decide +kernel
theorem dX8_settles_18 : decode cX8_settles 18 = .ok (.iaload, 1) := by decide +kernel
theorem dX8_settles_19 : decode cX8_settles 19 = .ok (.ifCond .eq 8, 3) := by decide +kernel
theorem dX8_settles_22 : decode cX8_settles 22 = .ok (.aload_n 0, 1) := by decide +kernel
theorem dX8_settles_23 : decode cX8_settles 23 = .ok (.iload_n 1, 1) := by decide +kernel
theorem dX8_settles_24 : decode cX8_settles 24 = .ok (.invokevirtual 221, 3) := by decide +kernel
theorem dX8_settles_27 : decode cX8_settles 27 = .ok (.iinc 1 1, 3) := by decide +kernel
theorem dX8_settles_30 : decode cX8_settles 30 = .ok (.goto (-28), 3) := by decide +kernel
theorem dX8_settles_33 : decode cX8_settles 33 = .ok (.iconst 0, 1) := by decide +kernel
theorem dX8_settles_34 : decode cX8_settles 34 = .ok (.istore_n 1, 1) := by decide +kernel
theorem dX8_settles_35 : decode cX8_settles 35 = .ok (.iload_n 1, 1) := by decide +kernel
theorem dX8_settles_36 : decode cX8_settles 36 = .ok (.aload_n 0, 1) := by decide +kernel
theorem dX8_settles_37 : decode cX8_settles 37 = .ok (.invokevirtual 184, 3) := by decide +kernel
theorem dX8_settles_40 : decode cX8_settles 40 = .ok (.if_icmp .ge 70, 3) := by decide +kernel
theorem dX8_settles_43 : decode cX8_settles 43 = .ok (.aload_n 0, 1) := by decide +kernel
theorem dX8_settles_44 : decode cX8_settles 44 = .ok (.getfield 23, 3) := by decide +kernel
theorem dX8_settles_47 : decode cX8_settles 47 = .ok (.iload_n 1, 1) := by decide +kernel
theorem dX8_settles_48 : decode cX8_settles 48 = .ok (.invokestatic 193, 3) := by decide +kernel
theorem dX8_settles_51 : decode cX8_settles 51 = .ok (.iaload, 1) := by decide +kernel
theorem dX8_settles_52 : decode cX8_settles 52 = .ok (.ifCond .ne 52, 3) := by decide +kernel
theorem dX8_settles_55 : decode cX8_settles 55 = .ok (.aload_n 0, 1) := by decide +kernel
theorem dX8_settles_56 : decode cX8_settles 56 = .ok (.iload_n 1, 1) := by decide +kernel
theorem dX8_settles_57 : decode cX8_settles 57 = .ok (.invokevirtual 224, 3) := by decide +kernel
theorem dX8_settles_60 : decode cX8_settles 60 = .ok (.iconst (-1), 1) := by decide +kernel
theorem dX8_settles_61 : decode cX8_settles 61 = .ok (.if_icmp .eq 43, 3) := by decide +kernel
theorem dX8_settles_64 : decode cX8_settles 64 = .ok (.aload_n 0, 1) := by decide +kernel
theorem dX8_settles_65 : decode cX8_settles 65 = .ok (.iload_n 1, 1) := by decide +kernel
theorem dX8_settles_66 : decode cX8_settles 66 = .ok (.invokevirtual 218, 3) := by decide +kernel
theorem dX8_settles_69 : decode cX8_settles 69 = .ok (.aload_n 0, 1) := by decide +kernel
theorem dX8_settles_70 : decode cX8_settles 70 = .ok (.getfield 17, 3) := by decide +kernel
theorem dX8_settles_73 : decode cX8_settles 73 = .ok (.iconst 3, 1) := by decide +kernel
theorem dX8_settles_74 : decode cX8_settles 74 = .ok (.iaload, 1) := by decide +kernel
theorem dX8_settles_75 : decode cX8_settles 75 = .ok (.aload_n 0, 1) := by decide +kernel
theorem dX8_settles_76 : decode cX8_settles 76 = .ok (.invokevirtual 227, 3) := by decide +kernel
theorem dX8_settles_79 : decode cX8_settles 79 = .ok (.isub, 1) := by decide +kernel
theorem dX8_settles_80 : decode cX8_settles 80 = .ok (.if_icmp .le 6, 3) := by decide +kernel
theorem dX8_settles_83 : decode cX8_settles 83 = .ok (.goto 21, 3) := by decide +kernel
theorem dX8_settles_86 : decode cX8_settles 86 = .ok (.aload_n 0, 1) := by decide +kernel
theorem dX8_settles_87 : decode cX8_settles 87 = .ok (.iload_n 1, 1) := by decide +kernel
theorem dX8_settles_88 : decode cX8_settles 88 = .ok (.iconst 1, 1) := by decide +kernel
theorem dX8_settles_89 : decode cX8_settles 89 = .ok (.aload_n 0, 1) := by decide +kernel
theorem dX8_settles_90 : decode cX8_settles 90 = .ok (.iload_n 1, 1) := by decide +kernel
theorem dX8_settles_91 : decode cX8_settles 91 = .ok (.invokevirtual 224, 3) := by decide +kernel
theorem dX8_settles_94 : decode cX8_settles 94 = .ok (.invokevirtual 230, 3) := by decide +kernel
theorem dX8_settles_97 : decode cX8_settles 97 = .ok (.aload_n 0, 1) := by decide +kernel
theorem dX8_settles_98 : decode cX8_settles 98 = .ok (.bipush 6, 2) := by decide +kernel
theorem dX8_settles_100 : decode cX8_settles 100 = .ok (.iload_n 1, 1) := by decide +kernel
theorem dX8_settles_101 : decode cX8_settles 101 = .ok (.invokevirtual 234, 3) := by decide +kernel
theorem dX8_settles_104 : decode cX8_settles 104 = .ok (.iinc 1 1, 3) := by decide +kernel
theorem dX8_settles_107 : decode cX8_settles 107 = .ok (.goto (-72), 3) := by decide +kernel
theorem dX8_settles_110 : decode cX8_settles 110 = .ok (.return_, 1) := by decide +kernel
theorem dX8_settlesHeld_0 : decode cX8_settlesHeld 0 = .ok (.aload_n 0, 1) := by decide +kernel
theorem dX8_settlesHeld_1 : decode cX8_settlesHeld 1 = .ok (.iload_n 1, 1) := by decide +kernel
theorem dX8_settlesHeld_2 : decode cX8_settlesHeld 2 = .ok (.invokevirtual 224, 3) := by decide +kernel
theorem dX8_settlesHeld_5 : decode cX8_settlesHeld 5 = .ok (.istore_n 2, 1) := by decide +kernel
theorem dX8_settlesHeld_6 : decode cX8_settlesHeld 6 = .ok (.aload_n 0, 1) := by decide +kernel
theorem dX8_settlesHeld_7 : decode cX8_settlesHeld 7 = .ok (.getfield 23, 3) := by decide +kernel
theorem dX8_settlesHeld_10 : decode cX8_settlesHeld 10 = .ok (.iload_n 1, 1) := by decide +kernel
theorem dX8_settlesHeld_11 : decode cX8_settlesHeld 11 = .ok (.invokestatic 193, 3) := by decide +kernel
theorem dX8_settlesHeld_14 : decode cX8_settlesHeld 14 = .ok (.iconst 1, 1) := by decide +kernel
theorem dX8_settlesHeld_15 : decode cX8_settlesHeld 15 = .ok (.iadd, 1) := by decide +kernel
theorem dX8_settlesHeld_16 : decode cX8_settlesHeld 16 = .ok (.iaload, 1) := by decide +kernel
theorem dX8_settlesHeld_17 : decode cX8_settlesHeld 17 = .ok (.iload_n 2, 1) := by decide +kernel
theorem dX8_settlesHeld_18 : decode cX8_settlesHeld 18 = .ok (.if_icmp .ne 14, 3) := by decide +kernel
theorem dX8_settlesHeld_21 : decode cX8_settlesHeld 21 = .ok (.aload_n 0, 1) := by decide +kernel
theorem dX8_settlesHeld_22 : decode cX8_settlesHeld 22 = .ok (.getfield 23, 3) := by decide +kernel
theorem dX8_settlesHeld_25 : decode cX8_settlesHeld 25 = .ok (.iload_n 1, 1) := by decide +kernel
theorem dX8_settlesHeld_26 : decode cX8_settlesHeld 26 = .ok (.invokestatic 193, 3) := by decide +kernel
theorem dX8_settlesHeld_29 : decode cX8_settlesHeld 29 = .ok (.iconst 1, 1) := by decide +kernel
theorem dX8_settlesHeld_30 : decode cX8_settlesHeld 30 = .ok (.iastore, 1) := by decide +kernel
theorem dX8_settlesHeld_31 : decode cX8_settlesHeld 31 = .ok (.return_, 1) := by decide +kernel
theorem dX8_settlesHeld_32 : decode cX8_settlesHeld 32 = .ok (.aload_n 0, 1) := by decide +kernel
theorem dX8_settlesHeld_33 : decode cX8_settlesHeld 33 = .ok (.getfield 23, 3) := by decide +kernel
theorem dX8_settlesHeld_36 : decode cX8_settlesHeld 36 = .ok (.iload_n 1, 1) := by decide +kernel
theorem dX8_settlesHeld_37 : decode cX8_settlesHeld 37 = .ok (.invokestatic 193, 3) := by decide +kernel
theorem dX8_settlesHeld_40 : decode cX8_settlesHeld 40 = .ok (.iconst 2, 1) := by decide +kernel
theorem dX8_settlesHeld_41 : decode cX8_settlesHeld 41 = .ok (.iastore, 1) := by decide +kernel
theorem dX8_settlesHeld_42 : decode cX8_settlesHeld 42 = .ok (.aload_n 0, 1) := by decide +kernel
theorem dX8_settlesHeld_43 : decode cX8_settlesHeld 43 = .ok (.getfield 23, 3) := by decide +kernel
theorem dX8_settlesHeld_46 : decode cX8_settlesHeld 46 = .ok (.iload_n 1, 1) := by decide +kernel
theorem dX8_settlesHeld_47 : decode cX8_settlesHeld 47 = .ok (.invokestatic 193, 3) := by decide +kernel
theorem dX8_settlesHeld_50 : decode cX8_settlesHeld 50 = .ok (.iconst 2, 1) := by decide +kernel
theorem dX8_settlesHeld_51 : decode cX8_settlesHeld 51 = .ok (.iadd, 1) := by decide +kernel
theorem dX8_settlesHeld_52 : decode cX8_settlesHeld 52 = .ok (.iaload, 1) := by decide +kernel
theorem dX8_settlesHeld_53 : decode cX8_settlesHeld 53 = .ok (.ifCond .le 4, 3) := by decide +kernel
theorem dX8_settlesHeld_56 : decode cX8_settlesHeld 56 = .ok (.return_, 1) := by decide +kernel
theorem dX8_settlesHeld_57 : decode cX8_settlesHeld 57 = .ok (.aload_n 0, 1) := by decide +kernel
theorem dX8_settlesHeld_58 : decode cX8_settlesHeld 58 = .ok (.iload_n 1, 1) := by decide +kernel
theorem dX8_settlesHeld_59 : decode cX8_settlesHeld 59 = .ok (.iload_n 2, 1) := by decide +kernel
theorem dX8_settlesHeld_60 : decode cX8_settlesHeld 60 = .ok (.iconst (-1), 1) := by decide +kernel
theorem dX8_settlesHeld_61 : decode cX8_settlesHeld 61 = .ok (.if_icmp .ne 7, 3) := by decide +kernel
theorem dX8_settlesHeld_64 : decode cX8_settlesHeld 64 = .ok (.iconst 0, 1) := by decide +kernel
theorem dX8_settlesHeld_65 : decode cX8_settlesHeld 65 = .ok (.goto 4, 3) := by decide +kernel
theorem dX8_settlesHeld_68 : decode cX8_settlesHeld 68 = .ok (.iconst 1, 1) := by decide +kernel
theorem dX8_settlesHeld_69 : decode cX8_settlesHeld 69 = .ok (.iload_n 2, 1) := by decide +kernel
theorem dX8_settlesHeld_70 : decode cX8_settlesHeld 70 = .ok (.invokevirtual 230, 3) := by decide +kernel
theorem dX8_settlesHeld_73 : decode cX8_settlesHeld 73 = .ok (.aload_n 0, 1) := by decide +kernel
theorem dX8_settlesHeld_74 : decode cX8_settlesHeld 74 = .ok (.iload_n 2, 1) := by decide +kernel
theorem dX8_settlesHeld_75 : decode cX8_settlesHeld 75 = .ok (.iconst (-1), 1) := by decide +kernel
theorem dX8_settlesHeld_76 : decode cX8_settlesHeld 76 = .ok (.if_icmp .ne 7, 3) := by decide +kernel
theorem dX8_settlesHeld_79 : decode cX8_settlesHeld 79 = .ok (.iconst 5, 1) := by decide +kernel
theorem dX8_settlesHeld_80 : decode cX8_settlesHeld 80 = .ok (.goto 4, 3) := by decide +kernel
theorem dX8_settlesHeld_83 : decode cX8_settlesHeld 83 = .ok (.iconst 4, 1) := by decide +kernel
theorem dX8_settlesHeld_84 : decode cX8_settlesHeld 84 = .ok (.iload_n 1, 1) := by decide +kernel
theorem dX8_settlesHeld_85 : decode cX8_settlesHeld 85 = .ok (.invokevirtual 234, 3) := by decide +kernel
theorem dX8_settlesHeld_88 : decode cX8_settlesHeld 88 = .ok (.return_, 1) := by decide +kernel
theorem dX8_matches_0 : decode cX8_matches 0 = .ok (.bipush 7, 2) := by decide +kernel
theorem dX8_matches_2 : decode cX8_matches 2 = .ok (.bipush 8, 2) := by decide +kernel
theorem dX8_matches_4 : decode cX8_matches 4 = .ok (.iload_n 2, 1) := by decide +kernel
theorem dX8_matches_5 : decode cX8_matches 5 = .ok (.imul, 1) := by decide +kernel
theorem dX8_matches_6 : decode cX8_matches 6 = .ok (.iadd, 1) := by decide +kernel
theorem dX8_matches_7 : decode cX8_matches 7 = .ok (.istore_n 3, 1) := by decide +kernel
theorem dX8_matches_8 : decode cX8_matches 8 = .ok (.iconst 0, 1) := by decide +kernel
theorem dX8_matches_9 : decode cX8_matches 9 = .ok (.istore 4, 2) := by decide +kernel
theorem dX8_matches_11 : decode cX8_matches 11 = .ok (.iconst 0, 1) := by decide +kernel
theorem dX8_matches_12 : decode cX8_matches 12 = .ok (.istore 5, 2) := by decide +kernel
theorem dX8_matches_14 : decode cX8_matches 14 = .ok (.iload 5, 2) := by decide +kernel
theorem dX8_matches_16 : decode cX8_matches 16 = .ok (.aload_n 0, 1) := by decide +kernel
theorem dX8_matches_17 : decode cX8_matches 17 = .ok (.getfield 23, 3) := by decide +kernel
theorem dX8_matches_20 : decode cX8_matches 20 = .ok (.iload_n 1, 1) := by decide +kernel
theorem dX8_matches_21 : decode cX8_matches 21 = .ok (.invokestatic 190, 3) := by decide +kernel
theorem dX8_matches_24 : decode cX8_matches 24 = .ok (.iconst 3, 1) := by decide +kernel
theorem dX8_matches_25 : decode cX8_matches 25 = .ok (.iadd, 1) := by decide +kernel
theorem dX8_matches_26 : decode cX8_matches 26 = .ok (.iaload, 1) := by decide +kernel
theorem dX8_matches_27 : decode cX8_matches 27 = .ok (.if_icmp .ge 105, 3) := by decide +kernel
theorem dX8_matches_30 : decode cX8_matches 30 = .ok (.iload_n 1, 1) := by decide +kernel
theorem dX8_matches_31 : decode cX8_matches 31 = .ok (.invokestatic 190, 3) := by decide +kernel
theorem dX8_matches_34 : decode cX8_matches 34 = .ok (.iconst 4, 1) := by decide +kernel
theorem dX8_matches_35 : decode cX8_matches 35 = .ok (.iadd, 1) := by decide +kernel
theorem dX8_matches_36 : decode cX8_matches 36 = .ok (.iconst 2, 1) := by decide +kernel
theorem dX8_matches_37 : decode cX8_matches 37 = .ok (.iload 5, 2) := by decide +kernel
theorem dX8_matches_39 : decode cX8_matches 39 = .ok (.imul, 1) := by decide +kernel
theorem dX8_matches_40 : decode cX8_matches 40 = .ok (.iadd, 1) := by decide +kernel
theorem dX8_matches_41 : decode cX8_matches 41 = .ok (.istore 6, 2) := by decide +kernel
theorem dX8_matches_43 : decode cX8_matches 43 = .ok (.iload 4, 2) := by decide +kernel
theorem dX8_matches_45 : decode cX8_matches 45 = .ok (.aload_n 0, 1) := by decide +kernel
theorem dX8_matches_46 : decode cX8_matches 46 = .ok (.getfield 17, 3) := by decide +kernel
theorem dX8_matches_49 : decode cX8_matches 49 = .ok (.iload_n 3, 1) := by decide +kernel
theorem dX8_matches_50 : decode cX8_matches 50 = .ok (.iconst 2, 1) := by decide +kernel
theorem dX8_matches_51 : decode cX8_matches 51 = .ok (.iadd, 1) := by decide +kernel
theorem dX8_matches_52 : decode cX8_matches 52 = .ok (.iaload, 1) := by decide +kernel
theorem dX8_matches_53 : decode cX8_matches 53 = .ok (.if_icmp .ge 55, 3) := by decide +kernel
theorem dX8_matches_56 : decode cX8_matches 56 = .ok (.aload_n 0, 1) := by decide +kernel
theorem dX8_matches_57 : decode cX8_matches 57 = .ok (.getfield 23, 3) := by decide +kernel
theorem dX8_matches_60 : decode cX8_matches 60 = .ok (.iload 6, 2) := by decide +kernel
theorem dX8_matches_62 : decode cX8_matches 62 = .ok (.iconst 1, 1) := by decide +kernel
theorem dX8_matches_63 : decode cX8_matches 63 = .ok (.iadd, 1) := by decide +kernel
theorem dX8_matches_64 : decode cX8_matches 64 = .ok (.iaload, 1) := by decide +kernel
theorem dX8_matches_65 : decode cX8_matches 65 = .ok (.aload_n 0, 1) := by decide +kernel
theorem dX8_matches_66 : decode cX8_matches 66 = .ok (.getfield 23, 3) := by decide +kernel
theorem dX8_matches_69 : decode cX8_matches 69 = .ok (.iconst 0, 1) := by decide +kernel
theorem dX8_matches_70 : decode cX8_matches 70 = .ok (.iaload, 1) := by decide +kernel
theorem dX8_matches_71 : decode cX8_matches 71 = .ok (.aload_n 0, 1) := by decide +kernel
theorem dX8_matches_72 : decode cX8_matches 72 = .ok (.getfield 17, 3) := by decide +kernel
theorem dX8_matches_75 : decode cX8_matches 75 = .ok (.iload_n 3, 1) := by decide +kernel
theorem dX8_matches_76 : decode cX8_matches 76 = .ok (.iconst 1, 1) := by decide +kernel
theorem dX8_matches_77 : decode cX8_matches 77 = .ok (.iadd, 1) := by decide +kernel
theorem dX8_matches_78 : decode cX8_matches 78 = .ok (.iaload, 1) := by decide +kernel
theorem dX8_matches_79 : decode cX8_matches 79 = .ok (.isub, 1) := by decide +kernel
theorem dX8_matches_80 : decode cX8_matches 80 = .ok (.if_icmp .le 28, 3) := by decide +kernel
theorem dX8_matches_83 : decode cX8_matches 83 = .ok (.aload_n 0, 1) := by decide +kernel
theorem dX8_matches_84 : decode cX8_matches 84 = .ok (.getfield 23, 3) := by decide +kernel
theorem dX8_matches_87 : decode cX8_matches 87 = .ok (.iload 6, 2) := by decide +kernel
theorem dX8_matches_89 : decode cX8_matches 89 = .ok (.iaload, 1) := by decide +kernel
theorem dX8_matches_90 : decode cX8_matches 90 = .ok (.aload_n 0, 1) := by decide +kernel
theorem dX8_matches_91 : decode cX8_matches 91 = .ok (.getfield 17, 3) := by decide +kernel
theorem dX8_matches_94 : decode cX8_matches 94 = .ok (.iload_n 3, 1) := by decide +kernel
theorem dX8_matches_95 : decode cX8_matches 95 = .ok (.iconst 3, 1) := by decide +kernel
theorem dX8_matches_96 : decode cX8_matches 96 = .ok (.iadd, 1) := by decide +kernel
theorem dX8_matches_97 : decode cX8_matches 97 = .ok (.iload 4, 2) := by decide +kernel
theorem dX8_matches_99 : decode cX8_matches 99 = .ok (.iadd, 1) := by decide +kernel
theorem dX8_matches_100 : decode cX8_matches 100 = .ok (.iaload, 1) := by decide +kernel
theorem dX8_matches_101 : decode cX8_matches 101 = .ok (.if_icmp .ne 7, 3) := by decide +kernel
theorem dX8_matches_104 : decode cX8_matches 104 = .ok (.iconst 1, 1) := by decide +kernel
theorem dX8_matches_105 : decode cX8_matches 105 = .ok (.goto 4, 3) := by decide +kernel
theorem dX8_matches_108 : decode cX8_matches 108 = .ok (.iconst 0, 1) := by decide +kernel
theorem dX8_matches_109 : decode cX8_matches 109 = .ok (.istore 7, 2) := by decide +kernel
theorem dX8_matches_111 : decode cX8_matches 111 = .ok (.iload 4, 2) := by decide +kernel
theorem dX8_matches_113 : decode cX8_matches 113 = .ok (.iload 7, 2) := by decide +kernel
theorem dX8_matches_115 : decode cX8_matches 115 = .ok (.ifCond .eq 7, 3) := by decide +kernel
theorem dX8_matches_118 : decode cX8_matches 118 = .ok (.iconst 1, 1) := by decide +kernel
theorem dX8_matches_119 : decode cX8_matches 119 = .ok (.goto 4, 3) := by decide +kernel
theorem dX8_matches_122 : decode cX8_matches 122 = .ok (.iconst 0, 1) := by decide +kernel
theorem dX8_matches_123 : decode cX8_matches 123 = .ok (.iadd, 1) := by decide +kernel
theorem dX8_matches_124 : decode cX8_matches 124 = .ok (.istore 4, 2) := by decide +kernel
theorem dX8_matches_126 : decode cX8_matches 126 = .ok (.iinc 5 1, 3) := by decide +kernel
theorem dX8_matches_129 : decode cX8_matches 129 = .ok (.goto (-115), 3) := by decide +kernel
theorem dX8_matches_132 : decode cX8_matches 132 = .ok (.iload 4, 2) := by decide +kernel
theorem dX8_matches_134 : decode cX8_matches 134 = .ok (.aload_n 0, 1) := by decide +kernel
theorem dX8_matches_135 : decode cX8_matches 135 = .ok (.getfield 17, 3) := by decide +kernel
theorem dX8_matches_138 : decode cX8_matches 138 = .ok (.iload_n 3, 1) := by decide +kernel
theorem dX8_matches_139 : decode cX8_matches 139 = .ok (.iconst 2, 1) := by decide +kernel
theorem dX8_matches_140 : decode cX8_matches 140 = .ok (.iadd, 1) := by decide +kernel
theorem dX8_matches_141 : decode cX8_matches 141 = .ok (.iaload, 1) := by decide +kernel
theorem dX8_matches_142 : decode cX8_matches 142 = .ok (.if_icmp .ne 7, 3) := by decide +kernel
theorem dX8_matches_145 : decode cX8_matches 145 = .ok (.iconst 1, 1) := by decide +kernel
theorem dX8_matches_146 : decode cX8_matches 146 = .ok (.goto 4, 3) := by decide +kernel
theorem dX8_matches_149 : decode cX8_matches 149 = .ok (.iconst 0, 1) := by decide +kernel
theorem dX8_matches_150 : decode cX8_matches 150 = .ok (.ireturn, 1) := by decide +kernel
theorem dX8_matching_0 : decode cX8_matching 0 = .ok (.iconst 0, 1) := by decide +kernel
theorem dX8_matching_1 : decode cX8_matching 1 = .ok (.istore_n 2, 1) := by decide +kernel
theorem dX8_matching_2 : decode cX8_matching 2 = .ok (.iconst 0, 1) := by decide +kernel
theorem dX8_matching_3 : decode cX8_matching 3 = .ok (.istore_n 3, 1) := by decide +kernel
theorem dX8_matching_4 : decode cX8_matching 4 = .ok (.iload_n 3, 1) := by decide +kernel
theorem dX8_matching_5 : decode cX8_matching 5 = .ok (.aload_n 0, 1) := by decide +kernel
theorem dX8_matching_6 : decode cX8_matching 6 = .ok (.getfield 17, 3) := by decide +kernel
theorem dX8_matching_9 : decode cX8_matching 9 = .ok (.iconst 0, 1) := by decide +kernel
theorem dX8_matching_10 : decode cX8_matching 10 = .ok (.iaload, 1) := by decide +kernel
theorem dX8_matching_11 : decode cX8_matching 11 = .ok (.if_icmp .ge 28, 3) := by decide +kernel
theorem dX8_matching_14 : decode cX8_matching 14 = .ok (.iload_n 2, 1) := by decide +kernel
theorem dX8_matching_15 : decode cX8_matching 15 = .ok (.aload_n 0, 1) := by decide +kernel
theorem dX8_matching_16 : decode cX8_matching 16 = .ok (.iload_n 1, 1) := by decide +kernel
theorem dX8_matching_17 : decode cX8_matching 17 = .ok (.iload_n 3, 1) := by decide +kernel
theorem dX8_matching_18 : decode cX8_matching 18 = .ok (.invokevirtual 238, 3) := by decide +kernel
theorem dX8_matching_21 : decode cX8_matching 21 = .ok (.ifCond .eq 9, 3) := by decide +kernel
theorem dX8_matching_24 : decode cX8_matching 24 = .ok (.iconst 1, 1) := by decide +kernel
theorem dX8_matching_25 : decode cX8_matching 25 = .ok (.iload_n 3, 1) := by decide +kernel
theorem dX8_matching_26 : decode cX8_matching 26 = .ok (.ishl, 1) := by decide +kernel
theorem dX8_matching_27 : decode cX8_matching 27 = .ok (.goto 4, 3) := by decide +kernel
theorem dX8_matching_30 : decode cX8_matching 30 = .ok (.iconst 0, 1) := by decide +kernel
theorem dX8_matching_31 : decode cX8_matching 31 = .ok (.ior, 1) := by decide +kernel
theorem dX8_matching_32 : decode cX8_matching 32 = .ok (.istore_n 2, 1) := by decide +kernel
theorem dX8_matching_33 : decode cX8_matching 33 = .ok (.iinc 3 1, 3) := by decide +kernel
theorem dX8_matching_36 : decode cX8_matching 36 = .ok (.goto (-32), 3) := by decide +kernel
theorem dX8_matching_39 : decode cX8_matching 39 = .ok (.iload_n 2, 1) := by decide +kernel
theorem dX8_matching_40 : decode cX8_matching 40 = .ok (.ireturn, 1) := by decide +kernel
theorem dX8_scoreOf_0 : decode cX8_scoreOf 0 = .ok (.iconst 0, 1) := by decide +kernel
theorem dX8_scoreOf_1 : decode cX8_scoreOf 1 = .ok (.istore_n 2, 1) := by decide +kernel
theorem dX8_scoreOf_2 : decode cX8_scoreOf 2 = .ok (.iconst 0, 1) := by decide +kernel
theorem dX8_scoreOf_3 : decode cX8_scoreOf 3 = .ok (.istore_n 3, 1) := by decide +kernel
theorem dX8_scoreOf_4 : decode cX8_scoreOf 4 = .ok (.iload_n 3, 1) := by decide +kernel
theorem dX8_scoreOf_5 : decode cX8_scoreOf 5 = .ok (.aload_n 0, 1) := by decide +kernel
theorem dX8_scoreOf_6 : decode cX8_scoreOf 6 = .ok (.getfield 17, 3) := by decide +kernel
theorem dX8_scoreOf_9 : decode cX8_scoreOf 9 = .ok (.iconst 0, 1) := by decide +kernel
theorem dX8_scoreOf_10 : decode cX8_scoreOf 10 = .ok (.iaload, 1) := by decide +kernel
theorem dX8_scoreOf_11 : decode cX8_scoreOf 11 = .ok (.if_icmp .ge 37, 3) := by decide +kernel
theorem dX8_scoreOf_14 : decode cX8_scoreOf 14 = .ok (.iload_n 2, 1) := by decide +kernel
theorem dX8_scoreOf_15 : decode cX8_scoreOf 15 = .ok (.aload_n 0, 1) := by decide +kernel
theorem dX8_scoreOf_16 : decode cX8_scoreOf 16 = .ok (.iload_n 1, 1) := by decide +kernel
theorem dX8_scoreOf_17 : decode cX8_scoreOf 17 = .ok (.iload_n 3, 1) := by decide +kernel
theorem dX8_scoreOf_18 : decode cX8_scoreOf 18 = .ok (.invokevirtual 238, 3) := by decide +kernel
theorem dX8_scoreOf_21 : decode cX8_scoreOf 21 = .ok (.ifCond .eq 18, 3) := by decide +kernel
theorem dX8_scoreOf_24 : decode cX8_scoreOf 24 = .ok (.aload_n 0, 1) := by decide +kernel
theorem dX8_scoreOf_25 : decode cX8_scoreOf 25 = .ok (.getfield 17, 3) := by decide +kernel
theorem dX8_scoreOf_28 : decode cX8_scoreOf 28 = .ok (.bipush 7, 2) := by decide +kernel
theorem dX8_scoreOf_30 : decode cX8_scoreOf 30 = .ok (.bipush 8, 2) := by decide +kernel
theorem dX8_scoreOf_32 : decode cX8_scoreOf 32 = .ok (.iload_n 3, 1) := by decide +kernel
theorem dX8_scoreOf_33 : decode cX8_scoreOf 33 = .ok (.imul, 1) := by decide +kernel
theorem dX8_scoreOf_34 : decode cX8_scoreOf 34 = .ok (.iadd, 1) := by decide +kernel
theorem dX8_scoreOf_35 : decode cX8_scoreOf 35 = .ok (.iaload, 1) := by decide +kernel
theorem dX8_scoreOf_36 : decode cX8_scoreOf 36 = .ok (.goto 4, 3) := by decide +kernel
theorem dX8_scoreOf_39 : decode cX8_scoreOf 39 = .ok (.iconst 0, 1) := by decide +kernel
theorem dX8_scoreOf_40 : decode cX8_scoreOf 40 = .ok (.iadd, 1) := by decide +kernel
theorem dX8_scoreOf_41 : decode cX8_scoreOf 41 = .ok (.istore_n 2, 1) := by decide +kernel
theorem dX8_scoreOf_42 : decode cX8_scoreOf 42 = .ok (.iinc 3 1, 3) := by decide +kernel
theorem dX8_scoreOf_45 : decode cX8_scoreOf 45 = .ok (.goto (-41), 3) := by decide +kernel
theorem dX8_scoreOf_48 : decode cX8_scoreOf 48 = .ok (.iload_n 2, 1) := by decide +kernel
theorem dX8_scoreOf_49 : decode cX8_scoreOf 49 = .ok (.ireturn, 1) := by decide +kernel
theorem dX8_keepsError_0 : decode cX8_keepsError 0 = .ok (.iload_n 1, 1) := by decide +kernel
theorem dX8_keepsError_1 : decode cX8_keepsError 1 = .ok (.invokestatic 190, 3) := by decide +kernel
theorem dX8_keepsError_4 : decode cX8_keepsError 4 = .ok (.istore_n 3, 1) := by decide +kernel
theorem dX8_keepsError_5 : decode cX8_keepsError 5 = .ok (.aload_n 0, 1) := by decide +kernel
theorem dX8_keepsError_6 : decode cX8_keepsError 6 = .ok (.getfield 23, 3) := by decide +kernel
theorem dX8_keepsError_9 : decode cX8_keepsError 9 = .ok (.iload_n 3, 1) := by decide +kernel
theorem dX8_keepsError_10 : decode cX8_keepsError 10 = .ok (.iconst 3, 1) := by decide +kernel
theorem dX8_keepsError_11 : decode cX8_keepsError 11 = .ok (.iadd, 1) := by decide +kernel
theorem dX8_keepsError_12 : decode cX8_keepsError 12 = .ok (.iaload, 1) := by decide +kernel
theorem dX8_keepsError_13 : decode cX8_keepsError 13 = .ok (.bipush 12, 2) := by decide +kernel
theorem dX8_keepsError_15 : decode cX8_keepsError 15 = .ok (.if_icmp .ne 55, 3) := by decide +kernel
theorem dX8_keepsError_18 : decode cX8_keepsError 18 = .ok (.iconst 2, 1) := by decide +kernel
theorem dX8_keepsError_19 : decode cX8_keepsError 19 = .ok (.istore 4, 2) := by decide +kernel
theorem dX8_keepsError_21 : decode cX8_keepsError 21 = .ok (.iload 4, 2) := by decide +kernel
theorem dX8_keepsError_23 : decode cX8_keepsError 23 = .ok (.bipush 24, 2) := by decide +kernel
theorem dX8_keepsError_25 : decode cX8_keepsError 25 = .ok (.if_icmp .ge 33, 3) := by decide +kernel
theorem dX8_keepsError_28 : decode cX8_keepsError 28 = .ok (.aload_n 0, 1) := by decide +kernel
theorem dX8_keepsError_29 : decode cX8_keepsError 29 = .ok (.getfield 23, 3) := by decide +kernel
theorem dX8_keepsError_32 : decode cX8_keepsError 32 = .ok (.iload_n 3, 1) := by decide +kernel
theorem dX8_keepsError_33 : decode cX8_keepsError 33 = .ok (.iconst 4, 1) := by decide +kernel
theorem dX8_keepsError_34 : decode cX8_keepsError 34 = .ok (.iadd, 1) := by decide +kernel
theorem dX8_keepsError_35 : decode cX8_keepsError 35 = .ok (.iload 4, 2) := by decide +kernel
theorem dX8_keepsError_37 : decode cX8_keepsError 37 = .ok (.iadd, 1) := by decide +kernel
theorem dX8_keepsError_38 : decode cX8_keepsError 38 = .ok (.iconst 2, 1) := by decide +kernel
theorem dX8_keepsError_39 : decode cX8_keepsError 39 = .ok (.isub, 1) := by decide +kernel
theorem dX8_keepsError_40 : decode cX8_keepsError 40 = .ok (.aload_n 0, 1) := by decide +kernel
theorem dX8_keepsError_41 : decode cX8_keepsError 41 = .ok (.getfield 23, 3) := by decide +kernel
theorem dX8_keepsError_44 : decode cX8_keepsError 44 = .ok (.iload_n 3, 1) := by decide +kernel
theorem dX8_keepsError_45 : decode cX8_keepsError 45 = .ok (.iconst 4, 1) := by decide +kernel
theorem dX8_keepsError_46 : decode cX8_keepsError 46 = .ok (.iadd, 1) := by decide +kernel
theorem dX8_keepsError_47 : decode cX8_keepsError 47 = .ok (.iload 4, 2) := by decide +kernel
theorem dX8_keepsError_49 : decode cX8_keepsError 49 = .ok (.iadd, 1) := by decide +kernel
theorem dX8_keepsError_50 : decode cX8_keepsError 50 = .ok (.iaload, 1) := by decide +kernel
theorem dX8_keepsError_51 : decode cX8_keepsError 51 = .ok (.iastore, 1) := by decide +kernel
theorem dX8_keepsError_52 : decode cX8_keepsError 52 = .ok (.iinc 4 1, 3) := by decide +kernel
theorem dX8_keepsError_55 : decode cX8_keepsError 55 = .ok (.goto (-34), 3) := by decide +kernel
theorem dX8_keepsError_58 : decode cX8_keepsError 58 = .ok (.aload_n 0, 1) := by decide +kernel
theorem dX8_keepsError_59 : decode cX8_keepsError 59 = .ok (.getfield 23, 3) := by decide +kernel
theorem dX8_keepsError_62 : decode cX8_keepsError 62 = .ok (.iload_n 3, 1) := by decide +kernel
theorem dX8_keepsError_63 : decode cX8_keepsError 63 = .ok (.iconst 3, 1) := by decide +kernel
theorem dX8_keepsError_64 : decode cX8_keepsError 64 = .ok (.iadd, 1) := by decide +kernel
theorem dX8_keepsError_65 : decode cX8_keepsError 65 = .ok (.dup2, 1) := by decide +kernel
theorem dX8_keepsError_66 : decode cX8_keepsError 66 = .ok (.iaload, 1) := by decide +kernel
theorem dX8_keepsError_67 : decode cX8_keepsError 67 = .ok (.iconst 1, 1) := by decide +kernel
theorem dX8_keepsError_68 : decode cX8_keepsError 68 = .ok (.isub, 1) := by decide +kernel
theorem dX8_keepsError_69 : decode cX8_keepsError 69 = .ok (.iastore, 1) := by decide +kernel
theorem dX8_keepsError_70 : decode cX8_keepsError 70 = .ok (.aload_n 0, 1) := by decide +kernel
theorem dX8_keepsError_71 : decode cX8_keepsError 71 = .ok (.getfield 23, 3) := by decide +kernel
theorem dX8_keepsError_74 : decode cX8_keepsError 74 = .ok (.iload_n 3, 1) := by decide +kernel
theorem dX8_keepsError_75 : decode cX8_keepsError 75 = .ok (.iconst 4, 1) := by decide +kernel
theorem dX8_keepsError_76 : decode cX8_keepsError 76 = .ok (.iadd, 1) := by decide +kernel
theorem dX8_keepsError_77 : decode cX8_keepsError 77 = .ok (.iconst 2, 1) := by decide +kernel
theorem dX8_keepsError_78 : decode cX8_keepsError 78 = .ok (.aload_n 0, 1) := by decide +kernel
theorem dX8_keepsError_79 : decode cX8_keepsError 79 = .ok (.getfield 23, 3) := by decide +kernel
theorem dX8_keepsError_82 : decode cX8_keepsError 82 = .ok (.iload_n 3, 1) := by decide +kernel
theorem dX8_keepsError_83 : decode cX8_keepsError 83 = .ok (.iconst 3, 1) := by decide +kernel
theorem dX8_keepsError_84 : decode cX8_keepsError 84 = .ok (.iadd, 1) := by decide +kernel
theorem dX8_keepsError_85 : decode cX8_keepsError 85 = .ok (.iaload, 1) := by decide +kernel
theorem dX8_keepsError_86 : decode cX8_keepsError 86 = .ok (.imul, 1) := by decide +kernel
theorem dX8_keepsError_87 : decode cX8_keepsError 87 = .ok (.iadd, 1) := by decide +kernel
theorem dX8_keepsError_88 : decode cX8_keepsError 88 = .ok (.iload_n 2, 1) := by decide +kernel
theorem dX8_keepsError_89 : decode cX8_keepsError 89 = .ok (.iastore, 1) := by decide +kernel
theorem dX8_keepsError_90 : decode cX8_keepsError 90 = .ok (.aload_n 0, 1) := by decide +kernel
theorem dX8_keepsError_91 : decode cX8_keepsError 91 = .ok (.getfield 23, 3) := by decide +kernel
theorem dX8_keepsError_94 : decode cX8_keepsError 94 = .ok (.iload_n 3, 1) := by decide +kernel
theorem dX8_keepsError_95 : decode cX8_keepsError 95 = .ok (.iconst 4, 1) := by decide +kernel
theorem dX8_keepsError_96 : decode cX8_keepsError 96 = .ok (.iadd, 1) := by decide +kernel
theorem dX8_keepsError_97 : decode cX8_keepsError 97 = .ok (.iconst 2, 1) := by decide +kernel
theorem dX8_keepsError_98 : decode cX8_keepsError 98 = .ok (.aload_n 0, 1) := by decide +kernel
theorem dX8_keepsError_99 : decode cX8_keepsError 99 = .ok (.getfield 23, 3) := by decide +kernel
theorem dX8_keepsError_102 : decode cX8_keepsError 102 = .ok (.iload_n 3, 1) := by decide +kernel
theorem dX8_keepsError_103 : decode cX8_keepsError 103 = .ok (.iconst 3, 1) := by decide +kernel
theorem dX8_keepsError_104 : decode cX8_keepsError 104 = .ok (.iadd, 1) := by decide +kernel
theorem dX8_keepsError_105 : decode cX8_keepsError 105 = .ok (.iaload, 1) := by decide +kernel
theorem dX8_keepsError_106 : decode cX8_keepsError 106 = .ok (.imul, 1) := by decide +kernel
theorem dX8_keepsError_107 : decode cX8_keepsError 107 = .ok (.iadd, 1) := by decide +kernel
theorem dX8_keepsError_108 : decode cX8_keepsError 108 = .ok (.iconst 1, 1) := by decide +kernel
theorem dX8_keepsError_109 : decode cX8_keepsError 109 = .ok (.iadd, 1) := by decide +kernel
theorem dX8_keepsError_110 : decode cX8_keepsError 110 = .ok (.aload_n 0, 1) := by decide +kernel
theorem dX8_keepsError_111 : decode cX8_keepsError 111 = .ok (.getfield 23, 3) := by decide +kernel
theorem dX8_keepsError_114 : decode cX8_keepsError 114 = .ok (.iconst 0, 1) := by decide +kernel
theorem dX8_keepsError_115 : decode cX8_keepsError 115 = .ok (.iaload, 1) := by decide +kernel
theorem dX8_keepsError_116 : decode cX8_keepsError 116 = .ok (.iastore, 1) := by decide +kernel
theorem dX8_keepsError_117 : decode cX8_keepsError 117 = .ok (.aload_n 0, 1) := by decide +kernel
theorem dX8_keepsError_118 : decode cX8_keepsError 118 = .ok (.getfield 23, 3) := by decide +kernel
theorem dX8_keepsError_121 : decode cX8_keepsError 121 = .ok (.iload_n 3, 1) := by decide +kernel
theorem dX8_keepsError_122 : decode cX8_keepsError 122 = .ok (.iconst 3, 1) := by decide +kernel
theorem dX8_keepsError_123 : decode cX8_keepsError 123 = .ok (.iadd, 1) := by decide +kernel
theorem dX8_keepsError_124 : decode cX8_keepsError 124 = .ok (.dup2, 1) := by decide +kernel
theorem dX8_keepsError_125 : decode cX8_keepsError 125 = .ok (.iaload, 1) := by decide +kernel
theorem dX8_keepsError_126 : decode cX8_keepsError 126 = .ok (.iconst 1, 1) := by decide +kernel
theorem dX8_keepsError_127 : decode cX8_keepsError 127 = .ok (.iadd, 1) := by decide +kernel
theorem dX8_keepsError_128 : decode cX8_keepsError 128 = .ok (.iastore, 1) := by decide +kernel
theorem dX8_keepsError_129 : decode cX8_keepsError 129 = .ok (.return_, 1) := by decide +kernel
theorem dX8_scoreThen_0 : decode cX8_scoreThen 0 = .ok (.iconst 0, 1) := by decide +kernel
theorem dX8_scoreThen_1 : decode cX8_scoreThen 1 = .ok (.istore_n 3, 1) := by decide +kernel
theorem dX8_scoreThen_2 : decode cX8_scoreThen 2 = .ok (.iload_n 3, 1) := by decide +kernel
theorem dX8_scoreThen_3 : decode cX8_scoreThen 3 = .ok (.bipush 28, 2) := by decide +kernel
theorem dX8_scoreThen_5 : decode cX8_scoreThen 5 = .ok (.if_icmp .ge 26, 3) := by decide +kernel
theorem dX8_scoreThen_8 : decode cX8_scoreThen 8 = .ok (.aload_n 0, 1) := by decide +kernel
theorem dX8_scoreThen_9 : decode cX8_scoreThen 9 = .ok (.getfield 46, 3) := by decide +kernel
theorem dX8_scoreThen_12 : decode cX8_scoreThen 12 = .ok (.iload_n 3, 1) := by decide +kernel
theorem dX8_scoreThen_13 : decode cX8_scoreThen 13 = .ok (.aload_n 0, 1) := by decide +kernel
theorem dX8_scoreThen_14 : decode cX8_scoreThen 14 = .ok (.getfield 23, 3) := by decide +kernel
theorem dX8_scoreThen_17 : decode cX8_scoreThen 17 = .ok (.iload_n 1, 1) := by decide +kernel
theorem dX8_scoreThen_18 : decode cX8_scoreThen 18 = .ok (.invokestatic 190, 3) := by decide +kernel
theorem dX8_scoreThen_21 : decode cX8_scoreThen 21 = .ok (.iload_n 3, 1) := by decide +kernel
theorem dX8_scoreThen_22 : decode cX8_scoreThen 22 = .ok (.iadd, 1) := by decide +kernel
theorem dX8_scoreThen_23 : decode cX8_scoreThen 23 = .ok (.iaload, 1) := by decide +kernel
theorem dX8_scoreThen_24 : decode cX8_scoreThen 24 = .ok (.iastore, 1) := by decide +kernel
theorem dX8_scoreThen_25 : decode cX8_scoreThen 25 = .ok (.iinc 3 1, 3) := by decide +kernel
theorem dX8_scoreThen_28 : decode cX8_scoreThen 28 = .ok (.goto (-26), 3) := by decide +kernel
theorem dX8_scoreThen_31 : decode cX8_scoreThen 31 = .ok (.aload_n 0, 1) := by decide +kernel
theorem dX8_scoreThen_32 : decode cX8_scoreThen 32 = .ok (.iload_n 1, 1) := by decide +kernel
theorem dX8_scoreThen_33 : decode cX8_scoreThen 33 = .ok (.iload_n 2, 1) := by decide +kernel
theorem dX8_scoreThen_34 : decode cX8_scoreThen 34 = .ok (.invokevirtual 241, 3) := by decide +kernel
theorem dX8_scoreThen_37 : decode cX8_scoreThen 37 = .ok (.aload_n 0, 1) := by decide +kernel
theorem dX8_scoreThen_38 : decode cX8_scoreThen 38 = .ok (.iload_n 1, 1) := by decide +kernel
theorem dX8_scoreThen_39 : decode cX8_scoreThen 39 = .ok (.invokevirtual 244, 3) := by decide +kernel
theorem dX8_scoreThen_42 : decode cX8_scoreThen 42 = .ok (.istore_n 3, 1) := by decide +kernel
theorem dX8_scoreThen_43 : decode cX8_scoreThen 43 = .ok (.iconst 0, 1) := by decide +kernel
theorem dX8_scoreThen_44 : decode cX8_scoreThen 44 = .ok (.istore 4, 2) := by decide +kernel
theorem dX8_scoreThen_46 : decode cX8_scoreThen 46 = .ok (.iload 4, 2) := by decide +kernel
theorem dX8_scoreThen_48 : decode cX8_scoreThen 48 = .ok (.bipush 28, 2) := by decide +kernel
theorem dX8_scoreThen_50 : decode cX8_scoreThen 50 = .ok (.if_icmp .ge 28, 3) := by decide +kernel
theorem dX8_scoreThen_53 : decode cX8_scoreThen 53 = .ok (.aload_n 0, 1) := by decide +kernel
theorem dX8_scoreThen_54 : decode cX8_scoreThen 54 = .ok (.getfield 23, 3) := by decide +kernel
theorem dX8_scoreThen_57 : decode cX8_scoreThen 57 = .ok (.iload_n 1, 1) := by decide +kernel
theorem dX8_scoreThen_58 : decode cX8_scoreThen 58 = .ok (.invokestatic 190, 3) := by decide +kernel
theorem dX8_scoreThen_61 : decode cX8_scoreThen 61 = .ok (.iload 4, 2) := by decide +kernel
theorem dX8_scoreThen_63 : decode cX8_scoreThen 63 = .ok (.iadd, 1) := by decide +kernel
theorem dX8_scoreThen_64 : decode cX8_scoreThen 64 = .ok (.aload_n 0, 1) := by decide +kernel
theorem dX8_scoreThen_65 : decode cX8_scoreThen 65 = .ok (.getfield 46, 3) := by decide +kernel
theorem dX8_scoreThen_68 : decode cX8_scoreThen 68 = .ok (.iload 4, 2) := by decide +kernel
theorem dX8_scoreThen_70 : decode cX8_scoreThen 70 = .ok (.iaload, 1) := by decide +kernel
theorem dX8_scoreThen_71 : decode cX8_scoreThen 71 = .ok (.iastore, 1) := by decide +kernel
theorem dX8_scoreThen_72 : decode cX8_scoreThen 72 = .ok (.iinc 4 1, 3) := by decide +kernel
theorem dX8_scoreThen_75 : decode cX8_scoreThen 75 = .ok (.goto (-29), 3) := by decide +kernel
theorem dX8_scoreThen_78 : decode cX8_scoreThen 78 = .ok (.iload_n 3, 1) := by decide +kernel
theorem dX8_scoreThen_79 : decode cX8_scoreThen 79 = .ok (.ireturn, 1) := by decide +kernel
theorem dX8_size_0 : decode cX8_size 0 = .ok (.aload_n 0, 1) := by decide +kernel
theorem dX8_size_1 : decode cX8_size 1 = .ok (.iload_n 1, 1) := by decide +kernel
theorem dX8_size_2 : decode cX8_size 2 = .ok (.iconst 0, 1) := by decide +kernel
theorem dX8_size_3 : decode cX8_size 3 = .ok (.bipush 9, 2) := by decide +kernel
theorem dX8_size_5 : decode cX8_size 5 = .ok (.invokestatic 82, 3) := by decide +kernel
theorem dX8_size_8 : decode cX8_size 8 = .ok (.ifCond .eq 7, 3) := by decide +kernel
theorem dX8_size_11 : decode cX8_size 11 = .ok (.iconst 0, 1) := by decide +kernel
theorem dX8_size_12 : decode cX8_size 12 = .ok (.goto 4, 3) := by decide +kernel
theorem dX8_size_15 : decode cX8_size 15 = .ok (.iconst 1, 1) := by decide +kernel
theorem dX8_size_16 : decode cX8_size 16 = .ok (.putfield 55, 3) := by decide +kernel
theorem dX8_size_19 : decode cX8_size 19 = .ok (.aload_n 0, 1) := by decide +kernel
theorem dX8_size_20 : decode cX8_size 20 = .ok (.getfield 55, 3) := by decide +kernel
theorem dX8_size_23 : decode cX8_size 23 = .ok (.ifCond .le 5, 3) := by decide +kernel
theorem dX8_size_26 : decode cX8_size 26 = .ok (.iconst 0, 1) := by decide +kernel
theorem dX8_size_27 : decode cX8_size 27 = .ok (.ireturn, 1) := by decide +kernel
theorem dX8_size_28 : decode cX8_size 28 = .ok (.iload_n 1, 1) := by decide +kernel
theorem dX8_size_29 : decode cX8_size 29 = .ok (.iconst 5, 1) := by decide +kernel
theorem dX8_size_30 : decode cX8_size 30 = .ok (.if_icmp .ge 10, 3) := by decide +kernel
theorem dX8_size_33 : decode cX8_size 33 = .ok (.aload_n 0, 1) := by decide +kernel
theorem dX8_size_34 : decode cX8_size 34 = .ok (.getfield 17, 3) := by decide +kernel
theorem dX8_size_37 : decode cX8_size 37 = .ok (.iload_n 1, 1) := by decide +kernel
theorem dX8_size_38 : decode cX8_size 38 = .ok (.iaload, 1) := by decide +kernel
theorem dX8_size_39 : decode cX8_size 39 = .ok (.ireturn, 1) := by decide +kernel
theorem dX8_size_40 : decode cX8_size 40 = .ok (.iload_n 1, 1) := by decide +kernel
theorem dX8_size_41 : decode cX8_size 41 = .ok (.tableswitch 58 5 8 #[31, 38, 43, 50], 31) := by decide +kernel
theorem dX8_size_72 : decode cX8_size 72 = .ok (.aload_n 0, 1) := by decide +kernel
theorem dX8_size_73 : decode cX8_size 73 = .ok (.getfield 23, 3) := by decide +kernel
theorem dX8_size_76 : decode cX8_size 76 = .ok (.iconst 0, 1) := by decide +kernel
theorem dX8_size_77 : decode cX8_size 77 = .ok (.iaload, 1) := by decide +kernel
theorem dX8_size_78 : decode cX8_size 78 = .ok (.ireturn, 1) := by decide +kernel
theorem dX8_size_79 : decode cX8_size 79 = .ok (.aload_n 0, 1) := by decide +kernel
theorem dX8_size_80 : decode cX8_size 80 = .ok (.invokevirtual 227, 3) := by decide +kernel
theorem dX8_size_83 : decode cX8_size 83 = .ok (.ireturn, 1) := by decide +kernel
theorem dX8_size_84 : decode cX8_size 84 = .ok (.aload_n 0, 1) := by decide +kernel
theorem dX8_size_85 : decode cX8_size 85 = .ok (.getfield 23, 3) := by decide +kernel
theorem dX8_size_88 : decode cX8_size 88 = .ok (.iconst 1, 1) := by decide +kernel
theorem dX8_size_89 : decode cX8_size 89 = .ok (.iaload, 1) := by decide +kernel
theorem dX8_size_90 : decode cX8_size 90 = .ok (.ireturn, 1) := by decide +kernel
theorem dX8_size_91 : decode cX8_size 91 = .ok (.aload_n 0, 1) := by decide +kernel
theorem dX8_size_92 : decode cX8_size 92 = .ok (.getfield 17, 3) := by decide +kernel
theorem dX8_size_95 : decode cX8_size 95 = .ok (.bipush 6, 2) := by decide +kernel
theorem dX8_size_97 : decode cX8_size 97 = .ok (.iaload, 1) := by decide +kernel
theorem dX8_size_98 : decode cX8_size 98 = .ok (.ireturn, 1) := by decide +kernel
theorem dX8_size_99 : decode cX8_size 99 = .ok (.aload_n 0, 1) := by decide +kernel
theorem dX8_size_100 : decode cX8_size 100 = .ok (.getfield 196, 3) := by decide +kernel
theorem dX8_size_103 : decode cX8_size 103 = .ok (.ireturn, 1) := by decide +kernel
theorem dX8_atPort_0 : decode cX8_atPort 0 = .ok (.iconst 0, 1) := by decide +kernel
theorem dX8_atPort_1 : decode cX8_atPort 1 = .ok (.istore_n 2, 1) := by decide +kernel
theorem dX8_atPort_2 : decode cX8_atPort 2 = .ok (.iload_n 2, 1) := by decide +kernel
theorem dX8_atPort_3 : decode cX8_atPort 3 = .ok (.aload_n 0, 1) := by decide +kernel
theorem dX8_atPort_4 : decode cX8_atPort 4 = .ok (.invokevirtual 187, 3) := by decide +kernel
theorem dX8_atPort_7 : decode cX8_atPort 7 = .ok (.if_icmp .ge 26, 3) := by decide +kernel
theorem dX8_atPort_10 : decode cX8_atPort 10 = .ok (.aload_n 0, 1) := by decide +kernel
theorem dX8_atPort_11 : decode cX8_atPort 11 = .ok (.getfield 23, 3) := by decide +kernel
theorem dX8_atPort_14 : decode cX8_atPort 14 = .ok (.iload_n 2, 1) := by decide +kernel
theorem dX8_atPort_15 : decode cX8_atPort 15 = .ok (.invokestatic 190, 3) := by decide +kernel
theorem dX8_atPort_18 : decode cX8_atPort 18 = .ok (.iconst 0, 1) := by decide +kernel
theorem dX8_atPort_19 : decode cX8_atPort 19 = .ok (.iadd, 1) := by decide +kernel
theorem dX8_atPort_20 : decode cX8_atPort 20 = .ok (.iaload, 1) := by decide +kernel
theorem dX8_atPort_21 : decode cX8_atPort 21 = .ok (.iload_n 1, 1) := by decide +kernel
theorem dX8_atPort_22 : decode cX8_atPort 22 = .ok (.if_icmp .ne 5, 3) := by decide +kernel
theorem dX8_atPort_25 : decode cX8_atPort 25 = .ok (.iload_n 2, 1) := by decide +kernel
theorem dX8_atPort_26 : decode cX8_atPort 26 = .ok (.ireturn, 1) := by decide +kernel
theorem dX8_atPort_27 : decode cX8_atPort 27 = .ok (.iinc 2 1, 3) := by decide +kernel
theorem dX8_atPort_30 : decode cX8_atPort 30 = .ok (.goto (-28), 3) := by decide +kernel
theorem dX8_atPort_33 : decode cX8_atPort 33 = .ok (.iconst (-1), 1) := by decide +kernel
theorem dX8_atPort_34 : decode cX8_atPort 34 = .ok (.ireturn, 1) := by decide +kernel
theorem dX8_deviceAt_0 : decode cX8_deviceAt 0 = .ok (.aload_n 0, 1) := by decide +kernel
theorem dX8_deviceAt_1 : decode cX8_deviceAt 1 = .ok (.iload_n 1, 1) := by decide +kernel
theorem dX8_deviceAt_2 : decode cX8_deviceAt 2 = .ok (.iconst 0, 1) := by decide +kernel
theorem dX8_deviceAt_3 : decode cX8_deviceAt 3 = .ok (.aload_n 0, 1) := by decide +kernel
theorem dX8_deviceAt_4 : decode cX8_deviceAt 4 = .ok (.getfield 17, 3) := by decide +kernel
theorem dX8_deviceAt_7 : decode cX8_deviceAt 7 = .ok (.iconst 4, 1) := by decide +kernel
theorem dX8_deviceAt_8 : decode cX8_deviceAt 8 = .ok (.iaload, 1) := by decide +kernel
theorem dX8_deviceAt_9 : decode cX8_deviceAt 9 = .ok (.iconst 1, 1) := by decide +kernel
theorem dX8_deviceAt_10 : decode cX8_deviceAt 10 = .ok (.isub, 1) := by decide +kernel
theorem dX8_deviceAt_11 : decode cX8_deviceAt 11 = .ok (.invokestatic 82, 3) := by decide +kernel
theorem dX8_deviceAt_14 : decode cX8_deviceAt 14 = .ok (.ifCond .eq 7, 3) := by decide +kernel
theorem dX8_deviceAt_17 : decode cX8_deviceAt 17 = .ok (.iconst 0, 1) := by decide +kernel
theorem dX8_deviceAt_18 : decode cX8_deviceAt 18 = .ok (.goto 4, 3) := by decide +kernel
theorem dX8_deviceAt_21 : decode cX8_deviceAt 21 = .ok (.iconst 1, 1) := by decide +kernel
theorem dX8_deviceAt_22 : decode cX8_deviceAt 22 = .ok (.putfield 55, 3) := by decide +kernel
theorem dX8_deviceAt_25 : decode cX8_deviceAt 25 = .ok (.aload_n 0, 1) := by decide +kernel
theorem dX8_deviceAt_26 : decode cX8_deviceAt 26 = .ok (.getfield 55, 3) := by decide +kernel
theorem dX8_deviceAt_29 : decode cX8_deviceAt 29 = .ok (.ifCond .ne 11, 3) := by decide +kernel
theorem dX8_deviceAt_32 : decode cX8_deviceAt 32 = .ok (.aload_n 0, 1) := by decide +kernel
theorem dX8_deviceAt_33 : decode cX8_deviceAt 33 = .ok (.iload_n 1, 1) := by decide +kernel
theorem dX8_deviceAt_34 : decode cX8_deviceAt 34 = .ok (.invokevirtual 247, 3) := by decide +kernel
theorem dX8_deviceAt_37 : decode cX8_deviceAt 37 = .ok (.goto 4, 3) := by decide +kernel
theorem dX8_deviceAt_40 : decode cX8_deviceAt 40 = .ok (.iconst 0, 1) := by decide +kernel
theorem dX8_deviceAt_41 : decode cX8_deviceAt 41 = .ok (.ireturn, 1) := by decide +kernel
theorem dX8_isHeldBy_0 : decode cX8_isHeldBy 0 = .ok (.aload_n 0, 1) := by decide +kernel
theorem dX8_isHeldBy_1 : decode cX8_isHeldBy 1 = .ok (.getfield 23, 3) := by decide +kernel
theorem dX8_isHeldBy_4 : decode cX8_isHeldBy 4 = .ok (.iload_n 1, 1) := by decide +kernel
theorem dX8_isHeldBy_5 : decode cX8_isHeldBy 5 = .ok (.invokestatic 193, 3) := by decide +kernel
theorem dX8_isHeldBy_8 : decode cX8_isHeldBy 8 = .ok (.iaload, 1) := by decide +kernel
theorem dX8_isHeldBy_9 : decode cX8_isHeldBy 9 = .ok (.ifCond .eq 22, 3) := by decide +kernel
theorem dX8_isHeldBy_12 : decode cX8_isHeldBy 12 = .ok (.aload_n 0, 1) := by decide +kernel
theorem dX8_isHeldBy_13 : decode cX8_isHeldBy 13 = .ok (.getfield 23, 3) := by decide +kernel
theorem dX8_isHeldBy_16 : decode cX8_isHeldBy 16 = .ok (.iload_n 1, 1) := by decide +kernel
theorem dX8_isHeldBy_17 : decode cX8_isHeldBy 17 = .ok (.invokestatic 193, 3) := by decide +kernel
theorem dX8_isHeldBy_20 : decode cX8_isHeldBy 20 = .ok (.iconst 1, 1) := by decide +kernel
theorem dX8_isHeldBy_21 : decode cX8_isHeldBy 21 = .ok (.iadd, 1) := by decide +kernel
theorem dX8_isHeldBy_22 : decode cX8_isHeldBy 22 = .ok (.iaload, 1) := by decide +kernel
theorem dX8_isHeldBy_23 : decode cX8_isHeldBy 23 = .ok (.iload_n 2, 1) := by decide +kernel
theorem dX8_isHeldBy_24 : decode cX8_isHeldBy 24 = .ok (.if_icmp .ne 7, 3) := by decide +kernel
theorem dX8_isHeldBy_27 : decode cX8_isHeldBy 27 = .ok (.iconst 1, 1) := by decide +kernel
theorem dX8_isHeldBy_28 : decode cX8_isHeldBy 28 = .ok (.goto 4, 3) := by decide +kernel
theorem dX8_isHeldBy_31 : decode cX8_isHeldBy 31 = .ok (.iconst 0, 1) := by decide +kernel
theorem dX8_isHeldBy_32 : decode cX8_isHeldBy 32 = .ok (.ireturn, 1) := by decide +kernel
theorem dX8_holding_0 : decode cX8_holding 0 = .ok (.iconst 0, 1) := by decide +kernel
theorem dX8_holding_1 : decode cX8_holding 1 = .ok (.istore_n 2, 1) := by decide +kernel
theorem dX8_holding_2 : decode cX8_holding 2 = .ok (.iconst 0, 1) := by decide +kernel
theorem dX8_holding_3 : decode cX8_holding 3 = .ok (.istore_n 3, 1) := by decide +kernel
theorem dX8_holding_4 : decode cX8_holding 4 = .ok (.iload_n 3, 1) := by decide +kernel
theorem dX8_holding_5 : decode cX8_holding 5 = .ok (.aload_n 0, 1) := by decide +kernel
theorem dX8_holding_6 : decode cX8_holding 6 = .ok (.invokevirtual 184, 3) := by decide +kernel
theorem dX8_holding_9 : decode cX8_holding 9 = .ok (.if_icmp .ge 28, 3) := by decide +kernel
theorem dX8_holding_12 : decode cX8_holding 12 = .ok (.iload_n 2, 1) := by decide +kernel
theorem dX8_holding_13 : decode cX8_holding 13 = .ok (.aload_n 0, 1) := by decide +kernel
theorem dX8_holding_14 : decode cX8_holding 14 = .ok (.iload_n 3, 1) := by decide +kernel
theorem dX8_holding_15 : decode cX8_holding 15 = .ok (.iload_n 1, 1) := by decide +kernel
theorem dX8_holding_16 : decode cX8_holding 16 = .ok (.invokevirtual 250, 3) := by decide +kernel
theorem dX8_holding_19 : decode cX8_holding 19 = .ok (.ifCond .eq 9, 3) := by decide +kernel
theorem dX8_holding_22 : decode cX8_holding 22 = .ok (.iconst 1, 1) := by decide +kernel
theorem dX8_holding_23 : decode cX8_holding 23 = .ok (.iload_n 3, 1) := by decide +kernel
theorem dX8_holding_24 : decode cX8_holding 24 = .ok (.ishl, 1) := by decide +kernel
theorem dX8_holding_25 : decode cX8_holding 25 = .ok (.goto 4, 3) := by decide +kernel
theorem dX8_holding_28 : decode cX8_holding 28 = .ok (.iconst 0, 1) := by decide +kernel
theorem dX8_holding_29 : decode cX8_holding 29 = .ok (.ior, 1) := by decide +kernel
theorem dX8_holding_30 : decode cX8_holding 30 = .ok (.istore_n 2, 1) := by decide +kernel
theorem dX8_holding_31 : decode cX8_holding 31 = .ok (.iinc 3 1, 3) := by decide +kernel
theorem dX8_holding_34 : decode cX8_holding 34 = .ok (.goto (-30), 3) := by decide +kernel
theorem dX8_holding_37 : decode cX8_holding 37 = .ok (.iload_n 2, 1) := by decide +kernel
theorem dX8_holding_38 : decode cX8_holding 38 = .ok (.ireturn, 1) := by decide +kernel
theorem dX8_holdMany_0 : decode cX8_holdMany 0 = .ok (.iconst 0, 1) := by decide +kernel
theorem dX8_holdMany_1 : decode cX8_holdMany 1 = .ok (.istore_n 2, 1) := by decide +kernel
theorem dX8_holdMany_2 : decode cX8_holdMany 2 = .ok (.iconst 0, 1) := by decide +kernel
theorem dX8_holdMany_3 : decode cX8_holdMany 3 = .ok (.istore_n 3, 1) := by decide +kernel
theorem dX8_holdMany_4 : decode cX8_holdMany 4 = .ok (.iload_n 3, 1) := by decide +kernel
theorem dX8_holdMany_5 : decode cX8_holdMany 5 = .ok (.aload_n 0, 1) := by decide +kernel
theorem dX8_holdMany_6 : decode cX8_holdMany 6 = .ok (.invokevirtual 184, 3) := by decide +kernel
theorem dX8_holdMany_9 : decode cX8_holdMany 9 = .ok (.if_icmp .ge 26, 3) := by decide +kernel
theorem dX8_holdMany_12 : decode cX8_holdMany 12 = .ok (.iload_n 2, 1) := by decide +kernel
theorem dX8_holdMany_13 : decode cX8_holdMany 13 = .ok (.aload_n 0, 1) := by decide +kernel
theorem dX8_holdMany_14 : decode cX8_holdMany 14 = .ok (.iload_n 3, 1) := by decide +kernel
theorem dX8_holdMany_15 : decode cX8_holdMany 15 = .ok (.iload_n 1, 1) := by decide +kernel
theorem dX8_holdMany_16 : decode cX8_holdMany 16 = .ok (.invokevirtual 250, 3) := by decide +kernel
theorem dX8_holdMany_19 : decode cX8_holdMany 19 = .ok (.ifCond .eq 7, 3) := by decide +kernel
theorem dX8_holdMany_22 : decode cX8_holdMany 22 = .ok (.iconst 1, 1) := by decide +kernel
theorem dX8_holdMany_23 : decode cX8_holdMany 23 = .ok (.goto 4, 3) := by decide +kernel
theorem dX8_holdMany_26 : decode cX8_holdMany 26 = .ok (.iconst 0, 1) := by decide +kernel
theorem dX8_holdMany_27 : decode cX8_holdMany 27 = .ok (.iadd, 1) := by decide +kernel
theorem dX8_holdMany_28 : decode cX8_holdMany 28 = .ok (.istore_n 2, 1) := by decide +kernel
theorem dX8_holdMany_29 : decode cX8_holdMany 29 = .ok (.iinc 3 1, 3) := by decide +kernel
theorem dX8_holdMany_32 : decode cX8_holdMany 32 = .ok (.goto (-28), 3) := by decide +kernel
theorem dX8_holdMany_35 : decode cX8_holdMany 35 = .ok (.iload_n 2, 1) := by decide +kernel
theorem dX8_holdMany_36 : decode cX8_holdMany 36 = .ok (.ireturn, 1) := by decide +kernel
theorem dX8_holdRate_0 : decode cX8_holdRate 0 = .ok (.iconst 0, 1) := by decide +kernel
theorem dX8_holdRate_1 : decode cX8_holdRate 1 = .ok (.istore_n 2, 1) := by decide +kernel
theorem dX8_holdRate_2 : decode cX8_holdRate 2 = .ok (.iconst 0, 1) := by decide +kernel
theorem dX8_holdRate_3 : decode cX8_holdRate 3 = .ok (.istore_n 3, 1) := by decide +kernel
theorem dX8_holdRate_4 : decode cX8_holdRate 4 = .ok (.iload_n 3, 1) := by decide +kernel
theorem dX8_holdRate_5 : decode cX8_holdRate 5 = .ok (.aload_n 0, 1) := by decide +kernel
theorem dX8_holdRate_6 : decode cX8_holdRate 6 = .ok (.invokevirtual 184, 3) := by decide +kernel
theorem dX8_holdRate_9 : decode cX8_holdRate 9 = .ok (.if_icmp .ge 30, 3) := by decide +kernel
theorem dX8_holdRate_12 : decode cX8_holdRate 12 = .ok (.iload_n 2, 1) := by decide +kernel
theorem dX8_holdRate_13 : decode cX8_holdRate 13 = .ok (.aload_n 0, 1) := by decide +kernel
theorem dX8_holdRate_14 : decode cX8_holdRate 14 = .ok (.iload_n 3, 1) := by decide +kernel
theorem dX8_holdRate_15 : decode cX8_holdRate 15 = .ok (.iload_n 1, 1) := by decide +kernel
theorem dX8_holdRate_16 : decode cX8_holdRate 16 = .ok (.invokevirtual 250, 3) := by decide +kernel
theorem dX8_holdRate_19 : decode cX8_holdRate 19 = .ok (.ifCond .eq 11, 3) := by decide +kernel
theorem dX8_holdRate_22 : decode cX8_holdRate 22 = .ok (.aload_n 0, 1) := by decide +kernel
theorem dX8_holdRate_23 : decode cX8_holdRate 23 = .ok (.iload_n 3, 1) := by decide +kernel
theorem dX8_holdRate_24 : decode cX8_holdRate 24 = .ok (.invokevirtual 218, 3) := by decide +kernel
theorem dX8_holdRate_27 : decode cX8_holdRate 27 = .ok (.goto 4, 3) := by decide +kernel
theorem dX8_holdRate_30 : decode cX8_holdRate 30 = .ok (.iconst 0, 1) := by decide +kernel
theorem dX8_holdRate_31 : decode cX8_holdRate 31 = .ok (.iadd, 1) := by decide +kernel
theorem dX8_holdRate_32 : decode cX8_holdRate 32 = .ok (.istore_n 2, 1) := by decide +kernel
theorem dX8_holdRate_33 : decode cX8_holdRate 33 = .ok (.iinc 3 1, 3) := by decide +kernel
theorem dX8_holdRate_36 : decode cX8_holdRate 36 = .ok (.goto (-32), 3) := by decide +kernel
theorem dX8_holdRate_39 : decode cX8_holdRate 39 = .ok (.iload_n 2, 1) := by decide +kernel
theorem dX8_holdRate_40 : decode cX8_holdRate 40 = .ok (.ireturn, 1) := by decide +kernel
theorem dX8_device_0 : decode cX8_device 0 = .ok (.aload_n 0, 1) := by decide +kernel
theorem dX8_device_1 : decode cX8_device 1 = .ok (.aload_n 0, 1) := by decide +kernel
theorem dX8_device_2 : decode cX8_device 2 = .ok (.iload_n 1, 1) := by decide +kernel
theorem dX8_device_3 : decode cX8_device 3 = .ok (.invokevirtual 253, 3) := by decide +kernel
theorem dX8_device_6 : decode cX8_device 6 = .ok (.ifCond .ne 7, 3) := by decide +kernel
theorem dX8_device_9 : decode cX8_device 9 = .ok (.iconst 1, 1) := by decide +kernel
theorem dX8_device_10 : decode cX8_device 10 = .ok (.goto 18, 3) := by decide +kernel
theorem dX8_device_13 : decode cX8_device 13 = .ok (.iload_n 2, 1) := by decide +kernel
theorem dX8_device_14 : decode cX8_device 14 = .ok (.iconst 0, 1) := by decide +kernel
theorem dX8_device_15 : decode cX8_device 15 = .ok (.bipush 7, 2) := by decide +kernel
theorem dX8_device_17 : decode cX8_device 17 = .ok (.invokestatic 82, 3) := by decide +kernel
theorem dX8_device_20 : decode cX8_device 20 = .ok (.ifCond .ne 7, 3) := by decide +kernel
theorem dX8_device_23 : decode cX8_device 23 = .ok (.iconst 2, 1) := by decide +kernel
theorem dX8_device_24 : decode cX8_device 24 = .ok (.goto 4, 3) := by decide +kernel
theorem dX8_device_27 : decode cX8_device 27 = .ok (.iconst 0, 1) := by decide +kernel
theorem dX8_device_28 : decode cX8_device 28 = .ok (.putfield 55, 3) := by decide +kernel
theorem dX8_device_31 : decode cX8_device 31 = .ok (.aload_n 0, 1) := by decide +kernel
theorem dX8_device_32 : decode cX8_device 32 = .ok (.getfield 55, 3) := by decide +kernel
theorem dX8_device_35 : decode cX8_device 35 = .ok (.ifCond .le 5, 3) := by decide +kernel
theorem dX8_device_38 : decode cX8_device 38 = .ok (.iconst 0, 1) := by decide +kernel
theorem dX8_device_39 : decode cX8_device 39 = .ok (.ireturn, 1) := by decide +kernel
theorem dX8_device_40 : decode cX8_device 40 = .ok (.iload_n 2, 1) := by decide +kernel
theorem dX8_device_41 : decode cX8_device 41 = .ok (.tableswitch 107 0 6 #[43, 55, 65, 77, 83, 89, 101], 43) := by decide +kernel
theorem dX8_device_84 : decode cX8_device 84 = .ok (.aload_n 0, 1) := by decide +kernel
theorem dX8_device_85 : decode cX8_device 85 = .ok (.getfield 23, 3) := by decide +kernel
theorem dX8_device_88 : decode cX8_device 88 = .ok (.iload_n 1, 1) := by decide +kernel
theorem dX8_device_89 : decode cX8_device 89 = .ok (.invokestatic 190, 3) := by decide +kernel
theorem dX8_device_92 : decode cX8_device 92 = .ok (.iconst 0, 1) := by decide +kernel
theorem dX8_device_93 : decode cX8_device 93 = .ok (.iadd, 1) := by decide +kernel
theorem dX8_device_94 : decode cX8_device 94 = .ok (.iaload, 1) := by decide +kernel
theorem dX8_device_95 : decode cX8_device 95 = .ok (.ireturn, 1) := by decide +kernel
theorem dX8_device_96 : decode cX8_device 96 = .ok (.aload_n 0, 1) := by decide +kernel
theorem dX8_device_97 : decode cX8_device 97 = .ok (.getfield 17, 3) := by decide +kernel
theorem dX8_device_100 : decode cX8_device 100 = .ok (.bipush 63, 2) := by decide +kernel
theorem dX8_device_102 : decode cX8_device 102 = .ok (.iload_n 1, 1) := by decide +kernel
theorem dX8_device_103 : decode cX8_device 103 = .ok (.iadd, 1) := by decide +kernel
theorem dX8_device_104 : decode cX8_device 104 = .ok (.iaload, 1) := by decide +kernel
theorem dX8_device_105 : decode cX8_device 105 = .ok (.ireturn, 1) := by decide +kernel
theorem dX8_device_106 : decode cX8_device 106 = .ok (.aload_n 0, 1) := by decide +kernel
theorem dX8_device_107 : decode cX8_device 107 = .ok (.getfield 23, 3) := by decide +kernel
theorem dX8_device_110 : decode cX8_device 110 = .ok (.iload_n 1, 1) := by decide +kernel
theorem dX8_device_111 : decode cX8_device 111 = .ok (.invokestatic 190, 3) := by decide +kernel
theorem dX8_device_114 : decode cX8_device 114 = .ok (.iconst 1, 1) := by decide +kernel
theorem dX8_device_115 : decode cX8_device 115 = .ok (.iadd, 1) := by decide +kernel
theorem dX8_device_116 : decode cX8_device 116 = .ok (.iaload, 1) := by decide +kernel
theorem dX8_device_117 : decode cX8_device 117 = .ok (.ireturn, 1) := by decide +kernel
theorem dX8_device_118 : decode cX8_device 118 = .ok (.aload_n 0, 1) := by decide +kernel
theorem dX8_device_119 : decode cX8_device 119 = .ok (.iload_n 1, 1) := by decide +kernel
theorem dX8_device_120 : decode cX8_device 120 = .ok (.invokevirtual 244, 3) := by decide +kernel
theorem dX8_device_123 : decode cX8_device 123 = .ok (.ireturn, 1) := by decide +kernel
theorem dX8_device_124 : decode cX8_device 124 = .ok (.aload_n 0, 1) := by decide +kernel
theorem dX8_device_125 : decode cX8_device 125 = .ok (.iload_n 1, 1) := by decide +kernel
theorem dX8_device_126 : decode cX8_device 126 = .ok (.invokevirtual 256, 3) := by decide +kernel
theorem dX8_device_129 : decode cX8_device 129 = .ok (.ireturn, 1) := by decide +kernel
theorem dX8_device_130 : decode cX8_device 130 = .ok (.aload_n 0, 1) := by decide +kernel
theorem dX8_device_131 : decode cX8_device 131 = .ok (.getfield 23, 3) := by decide +kernel
theorem dX8_device_134 : decode cX8_device 134 = .ok (.iload_n 1, 1) := by decide +kernel
theorem dX8_device_135 : decode cX8_device 135 = .ok (.invokestatic 190, 3) := by decide +kernel
theorem dX8_device_138 : decode cX8_device 138 = .ok (.iconst 3, 1) := by decide +kernel
theorem dX8_device_139 : decode cX8_device 139 = .ok (.iadd, 1) := by decide +kernel
theorem dX8_device_140 : decode cX8_device 140 = .ok (.iaload, 1) := by decide +kernel
theorem dX8_device_141 : decode cX8_device 141 = .ok (.ireturn, 1) := by decide +kernel
theorem dX8_device_142 : decode cX8_device 142 = .ok (.aload_n 0, 1) := by decide +kernel
theorem dX8_device_143 : decode cX8_device 143 = .ok (.iload_n 1, 1) := by decide +kernel
theorem dX8_device_144 : decode cX8_device 144 = .ok (.invokevirtual 259, 3) := by decide +kernel
theorem dX8_device_147 : decode cX8_device 147 = .ok (.ireturn, 1) := by decide +kernel
theorem dX8_device_148 : decode cX8_device 148 = .ok (.aload_n 0, 1) := by decide +kernel
theorem dX8_device_149 : decode cX8_device 149 = .ok (.iload_n 1, 1) := by decide +kernel
theorem dX8_device_150 : decode cX8_device 150 = .ok (.invokevirtual 262, 3) := by decide +kernel
theorem dX8_device_153 : decode cX8_device 153 = .ok (.ireturn, 1) := by decide +kernel
theorem dX8_stream_0 : decode cX8_stream 0 = .ok (.aload_n 0, 1) := by decide +kernel
theorem dX8_stream_1 : decode cX8_stream 1 = .ok (.aload_n 0, 1) := by decide +kernel
theorem dX8_stream_2 : decode cX8_stream 2 = .ok (.iload_n 1, 1) := by decide +kernel
theorem dX8_stream_3 : decode cX8_stream 3 = .ok (.invokevirtual 265, 3) := by decide +kernel
theorem dX8_stream_6 : decode cX8_stream 6 = .ok (.ifCond .ne 7, 3) := by decide +kernel
theorem dX8_stream_9 : decode cX8_stream 9 = .ok (.iconst 1, 1) := by decide +kernel
theorem dX8_stream_10 : decode cX8_stream 10 = .ok (.goto 18, 3) := by decide +kernel
theorem dX8_stream_13 : decode cX8_stream 13 = .ok (.iload_n 2, 1) := by decide +kernel
theorem dX8_stream_14 : decode cX8_stream 14 = .ok (.iconst 0, 1) := by decide +kernel
theorem dX8_stream_15 : decode cX8_stream 15 = .ok (.bipush 6, 2) := by decide +kernel
theorem dX8_stream_17 : decode cX8_stream 17 = .ok (.invokestatic 82, 3) := by decide +kernel
theorem dX8_stream_20 : decode cX8_stream 20 = .ok (.ifCond .ne 7, 3) := by decide +kernel
theorem dX8_stream_23 : decode cX8_stream 23 = .ok (.iconst 2, 1) := by decide +kernel
theorem dX8_stream_24 : decode cX8_stream 24 = .ok (.goto 4, 3) := by decide +kernel
theorem dX8_stream_27 : decode cX8_stream 27 = .ok (.iconst 0, 1) := by decide +kernel
theorem dX8_stream_28 : decode cX8_stream 28 = .ok (.putfield 55, 3) := by decide +kernel
theorem dX8_stream_31 : decode cX8_stream 31 = .ok (.aload_n 0, 1) := by decide +kernel
theorem dX8_stream_32 : decode cX8_stream 32 = .ok (.getfield 55, 3) := by decide +kernel
theorem dX8_stream_35 : decode cX8_stream 35 = .ok (.ifCond .le 5, 3) := by decide +kernel
theorem dX8_stream_38 : decode cX8_stream 38 = .ok (.iconst 0, 1) := by decide +kernel
theorem dX8_stream_39 : decode cX8_stream 39 = .ok (.ireturn, 1) := by decide +kernel
theorem dX8_stream_40 : decode cX8_stream 40 = .ok (.iload_n 2, 1) := by decide +kernel
theorem dX8_stream_41 : decode cX8_stream 41 = .ok (.tableswitch 91 0 5 #[39, 49, 61, 67, 73, 79], 39) := by decide +kernel
theorem dX8_stream_80 : decode cX8_stream 80 = .ok (.aload_n 0, 1) := by decide +kernel
theorem dX8_stream_81 : decode cX8_stream 81 = .ok (.getfield 23, 3) := by decide +kernel
theorem dX8_stream_84 : decode cX8_stream 84 = .ok (.iload_n 1, 1) := by decide +kernel
theorem dX8_stream_85 : decode cX8_stream 85 = .ok (.invokestatic 193, 3) := by decide +kernel
theorem dX8_stream_88 : decode cX8_stream 88 = .ok (.iaload, 1) := by decide +kernel
theorem dX8_stream_89 : decode cX8_stream 89 = .ok (.ireturn, 1) := by decide +kernel
theorem dX8_stream_90 : decode cX8_stream 90 = .ok (.aload_n 0, 1) := by decide +kernel
theorem dX8_stream_91 : decode cX8_stream 91 = .ok (.getfield 23, 3) := by decide +kernel
theorem dX8_stream_94 : decode cX8_stream 94 = .ok (.iload_n 1, 1) := by decide +kernel
theorem dX8_stream_95 : decode cX8_stream 95 = .ok (.invokestatic 193, 3) := by decide +kernel
theorem dX8_stream_98 : decode cX8_stream 98 = .ok (.iconst 1, 1) := by decide +kernel
theorem dX8_stream_99 : decode cX8_stream 99 = .ok (.iadd, 1) := by decide +kernel
theorem dX8_stream_100 : decode cX8_stream 100 = .ok (.iaload, 1) := by decide +kernel
theorem dX8_stream_101 : decode cX8_stream 101 = .ok (.ireturn, 1) := by decide +kernel
theorem dX8_stream_102 : decode cX8_stream 102 = .ok (.aload_n 0, 1) := by decide +kernel
theorem dX8_stream_103 : decode cX8_stream 103 = .ok (.iload_n 1, 1) := by decide +kernel
theorem dX8_stream_104 : decode cX8_stream 104 = .ok (.invokevirtual 224, 3) := by decide +kernel
theorem dX8_stream_107 : decode cX8_stream 107 = .ok (.ireturn, 1) := by decide +kernel
theorem dX8_stream_108 : decode cX8_stream 108 = .ok (.aload_n 0, 1) := by decide +kernel
theorem dX8_stream_109 : decode cX8_stream 109 = .ok (.iload_n 1, 1) := by decide +kernel
theorem dX8_stream_110 : decode cX8_stream 110 = .ok (.invokevirtual 218, 3) := by decide +kernel
theorem dX8_stream_113 : decode cX8_stream 113 = .ok (.ireturn, 1) := by decide +kernel
theorem dX8_stream_114 : decode cX8_stream 114 = .ok (.aload_n 0, 1) := by decide +kernel
theorem dX8_stream_115 : decode cX8_stream 115 = .ok (.iload_n 1, 1) := by decide +kernel
theorem dX8_stream_116 : decode cX8_stream 116 = .ok (.invokevirtual 268, 3) := by decide +kernel
theorem dX8_stream_119 : decode cX8_stream 119 = .ok (.ireturn, 1) := by decide +kernel
theorem dX8_stream_120 : decode cX8_stream 120 = .ok (.aload_n 0, 1) := by decide +kernel
theorem dX8_stream_121 : decode cX8_stream 121 = .ok (.getfield 23, 3) := by decide +kernel
theorem dX8_stream_124 : decode cX8_stream 124 = .ok (.iload_n 1, 1) := by decide +kernel
theorem dX8_stream_125 : decode cX8_stream 125 = .ok (.invokestatic 193, 3) := by decide +kernel
theorem dX8_stream_128 : decode cX8_stream 128 = .ok (.iconst 2, 1) := by decide +kernel
theorem dX8_stream_129 : decode cX8_stream 129 = .ok (.iadd, 1) := by decide +kernel
theorem dX8_stream_130 : decode cX8_stream 130 = .ok (.iaload, 1) := by decide +kernel
theorem dX8_stream_131 : decode cX8_stream 131 = .ok (.ireturn, 1) := by decide +kernel
theorem dX8_stream_132 : decode cX8_stream 132 = .ok (.aload_n 0, 1) := by decide +kernel
theorem dX8_stream_133 : decode cX8_stream 133 = .ok (.iload_n 1, 1) := by decide +kernel
theorem dX8_stream_134 : decode cX8_stream 134 = .ok (.invokevirtual 212, 3) := by decide +kernel
theorem dX8_stream_137 : decode cX8_stream 137 = .ok (.ireturn, 1) := by decide +kernel
theorem dX8_packets_0 : decode cX8_packets 0 = .ok (.aload_n 0, 1) := by decide +kernel
theorem dX8_packets_1 : decode cX8_packets 1 = .ok (.aload_n 0, 1) := by decide +kernel
theorem dX8_packets_2 : decode cX8_packets 2 = .ok (.iload_n 1, 1) := by decide +kernel
theorem dX8_packets_3 : decode cX8_packets 3 = .ok (.invokevirtual 265, 3) := by decide +kernel
theorem dX8_packets_6 : decode cX8_packets 6 = .ok (.ifCond .eq 7, 3) := by decide +kernel
theorem dX8_packets_9 : decode cX8_packets 9 = .ok (.iconst 0, 1) := by decide +kernel
theorem dX8_packets_10 : decode cX8_packets 10 = .ok (.goto 4, 3) := by decide +kernel
theorem dX8_packets_13 : decode cX8_packets 13 = .ok (.iconst 1, 1) := by decide +kernel
theorem dX8_packets_14 : decode cX8_packets 14 = .ok (.putfield 55, 3) := by decide +kernel
theorem dX8_packets_17 : decode cX8_packets 17 = .ok (.aload_n 0, 1) := by decide +kernel
theorem dX8_packets_18 : decode cX8_packets 18 = .ok (.getfield 55, 3) := by decide +kernel
theorem dX8_packets_21 : decode cX8_packets 21 = .ok (.ifCond .ne 12, 3) := by decide +kernel
theorem dX8_packets_24 : decode cX8_packets 24 = .ok (.aload_n 0, 1) := by decide +kernel
theorem dX8_packets_25 : decode cX8_packets 25 = .ok (.getfield 26, 3) := by decide +kernel
theorem dX8_packets_28 : decode cX8_packets 28 = .ok (.iload_n 1, 1) := by decide +kernel
theorem dX8_packets_29 : decode cX8_packets 29 = .ok (.laload, 1) := by decide +kernel
theorem dX8_packets_30 : decode cX8_packets 30 = .ok (.goto 4, 3) := by decide +kernel
theorem dX8_packets_33 : decode cX8_packets 33 = .ok (.lconst 0, 1) := by decide +kernel
theorem dX8_packets_34 : decode cX8_packets 34 = .ok (.lreturn, 1) := by decide +kernel
theorem dX8_error_0 : decode cX8_error 0 = .ok (.aload_n 0, 1) := by decide +kernel
theorem dX8_error_1 : decode cX8_error 1 = .ok (.aload_n 0, 1) := by decide +kernel
theorem dX8_error_2 : decode cX8_error 2 = .ok (.iload_n 1, 1) := by decide +kernel
theorem dX8_error_3 : decode cX8_error 3 = .ok (.invokevirtual 253, 3) := by decide +kernel
theorem dX8_error_6 : decode cX8_error 6 = .ok (.ifCond .ne 7, 3) := by decide +kernel
theorem dX8_error_9 : decode cX8_error 9 = .ok (.iconst 1, 1) := by decide +kernel
theorem dX8_error_10 : decode cX8_error 10 = .ok (.goto 17, 3) := by decide +kernel
theorem dX8_error_13 : decode cX8_error 13 = .ok (.iload_n 3, 1) := by decide +kernel
theorem dX8_error_14 : decode cX8_error 14 = .ok (.iconst 0, 1) := by decide +kernel
theorem dX8_error_15 : decode cX8_error 15 = .ok (.iconst 1, 1) := by decide +kernel
theorem dX8_error_16 : decode cX8_error 16 = .ok (.invokestatic 82, 3) := by decide +kernel
theorem dX8_error_19 : decode cX8_error 19 = .ok (.ifCond .ne 7, 3) := by decide +kernel
theorem dX8_error_22 : decode cX8_error 22 = .ok (.iconst 2, 1) := by decide +kernel
theorem dX8_error_23 : decode cX8_error 23 = .ok (.goto 4, 3) := by decide +kernel
theorem dX8_error_26 : decode cX8_error 26 = .ok (.iconst 0, 1) := by decide +kernel
theorem dX8_error_27 : decode cX8_error 27 = .ok (.putfield 55, 3) := by decide +kernel
theorem dX8_error_30 : decode cX8_error 30 = .ok (.aload_n 0, 1) := by decide +kernel
theorem dX8_error_31 : decode cX8_error 31 = .ok (.getfield 55, 3) := by decide +kernel
theorem dX8_error_34 : decode cX8_error 34 = .ok (.ifCond .le 5, 3) := by decide +kernel
theorem dX8_error_37 : decode cX8_error 37 = .ok (.iconst 0, 1) := by decide +kernel
theorem dX8_error_38 : decode cX8_error 38 = .ok (.ireturn, 1) := by decide +kernel
theorem dX8_error_39 : decode cX8_error 39 = .ok (.aload_n 0, 1) := by decide +kernel
theorem dX8_error_40 : decode cX8_error 40 = .ok (.getfield 23, 3) := by decide +kernel
theorem dX8_error_43 : decode cX8_error 43 = .ok (.iload_n 1, 1) := by decide +kernel
theorem dX8_error_44 : decode cX8_error 44 = .ok (.invokestatic 190, 3) := by decide +kernel
theorem dX8_error_47 : decode cX8_error 47 = .ok (.iconst 3, 1) := by decide +kernel
theorem dX8_error_48 : decode cX8_error 48 = .ok (.iadd, 1) := by decide +kernel
theorem dX8_error_49 : decode cX8_error 49 = .ok (.iaload, 1) := by decide +kernel
theorem dX8_error_50 : decode cX8_error 50 = .ok (.istore 4, 2) := by decide +kernel
theorem dX8_error_52 : decode cX8_error 52 = .ok (.iload_n 2, 1) := by decide +kernel
theorem dX8_error_53 : decode cX8_error 53 = .ok (.iconst 0, 1) := by decide +kernel
theorem dX8_error_54 : decode cX8_error 54 = .ok (.iload 4, 2) := by decide +kernel
theorem dX8_error_56 : decode cX8_error 56 = .ok (.iconst 1, 1) := by decide +kernel
theorem dX8_error_57 : decode cX8_error 57 = .ok (.isub, 1) := by decide +kernel
theorem dX8_error_58 : decode cX8_error 58 = .ok (.invokestatic 82, 3) := by decide +kernel
theorem dX8_error_61 : decode cX8_error 61 = .ok (.ifCond .eq 28, 3) := by decide +kernel
theorem dX8_error_64 : decode cX8_error 64 = .ok (.aload_n 0, 1) := by decide +kernel
theorem dX8_error_65 : decode cX8_error 65 = .ok (.getfield 23, 3) := by decide +kernel
theorem dX8_error_68 : decode cX8_error 68 = .ok (.iload_n 1, 1) := by decide +kernel
theorem dX8_error_69 : decode cX8_error 69 = .ok (.invokestatic 190, 3) := by decide +kernel
theorem dX8_error_72 : decode cX8_error 72 = .ok (.iconst 4, 1) := by decide +kernel
theorem dX8_error_73 : decode cX8_error 73 = .ok (.iadd, 1) := by decide +kernel
theorem dX8_error_74 : decode cX8_error 74 = .ok (.iconst 2, 1) := by decide +kernel
theorem dX8_error_75 : decode cX8_error 75 = .ok (.iload 4, 2) := by decide +kernel
theorem dX8_error_77 : decode cX8_error 77 = .ok (.iconst 1, 1) := by decide +kernel
theorem dX8_error_78 : decode cX8_error 78 = .ok (.isub, 1) := by decide +kernel
theorem dX8_error_79 : decode cX8_error 79 = .ok (.iload_n 2, 1) := by decide +kernel
theorem dX8_error_80 : decode cX8_error 80 = .ok (.isub, 1) := by decide +kernel
theorem dX8_error_81 : decode cX8_error 81 = .ok (.imul, 1) := by decide +kernel
theorem dX8_error_82 : decode cX8_error 82 = .ok (.iadd, 1) := by decide +kernel
theorem dX8_error_83 : decode cX8_error 83 = .ok (.iload_n 3, 1) := by decide +kernel
theorem dX8_error_84 : decode cX8_error 84 = .ok (.iadd, 1) := by decide +kernel
theorem dX8_error_85 : decode cX8_error 85 = .ok (.iaload, 1) := by decide +kernel
theorem dX8_error_86 : decode cX8_error 86 = .ok (.goto 4, 3) := by decide +kernel
theorem dX8_error_89 : decode cX8_error 89 = .ok (.iconst (-1), 1) := by decide +kernel
theorem dX8_error_90 : decode cX8_error 90 = .ok (.ireturn, 1) := by decide +kernel
theorem dX8_cause_0 : decode cX8_cause 0 = .ok (.aload_n 0, 1) := by decide +kernel
theorem dX8_cause_1 : decode cX8_cause 1 = .ok (.iload_n 2, 1) := by decide +kernel
theorem dX8_cause_2 : decode cX8_cause 2 = .ok (.iconst 0, 1) := by decide +kernel
theorem dX8_cause_3 : decode cX8_cause 3 = .ok (.iconst 2, 1) := by decide +kernel
theorem dX8_cause_4 : decode cX8_cause 4 = .ok (.invokestatic 82, 3) := by decide +kernel
theorem dX8_cause_7 : decode cX8_cause 7 = .ok (.ifCond .eq 7, 3) := by decide +kernel
theorem dX8_cause_10 : decode cX8_cause 10 = .ok (.iconst 0, 1) := by decide +kernel
theorem dX8_cause_11 : decode cX8_cause 11 = .ok (.goto 4, 3) := by decide +kernel
theorem dX8_cause_14 : decode cX8_cause 14 = .ok (.iconst 1, 1) := by decide +kernel
theorem dX8_cause_15 : decode cX8_cause 15 = .ok (.putfield 55, 3) := by decide +kernel
theorem dX8_cause_18 : decode cX8_cause 18 = .ok (.aload_n 0, 1) := by decide +kernel
theorem dX8_cause_19 : decode cX8_cause 19 = .ok (.getfield 55, 3) := by decide +kernel
theorem dX8_cause_22 : decode cX8_cause 22 = .ok (.ifCond .le 5, 3) := by decide +kernel
theorem dX8_cause_25 : decode cX8_cause 25 = .ok (.iconst 0, 1) := by decide +kernel
theorem dX8_cause_26 : decode cX8_cause 26 = .ok (.ireturn, 1) := by decide +kernel
theorem dX8_cause_27 : decode cX8_cause 27 = .ok (.iload_n 1, 1) := by decide +kernel
theorem dX8_cause_28 : decode cX8_cause 28 = .ok (.iconst 0, 1) := by decide +kernel
theorem dX8_cause_29 : decode cX8_cause 29 = .ok (.aload_n 0, 1) := by decide +kernel
theorem dX8_cause_30 : decode cX8_cause 30 = .ok (.getfield 23, 3) := by decide +kernel
theorem dX8_cause_33 : decode cX8_cause 33 = .ok (.bipush 13, 2) := by decide +kernel
theorem dX8_cause_35 : decode cX8_cause 35 = .ok (.iaload, 1) := by decide +kernel
theorem dX8_cause_36 : decode cX8_cause 36 = .ok (.iconst 1, 1) := by decide +kernel
theorem dX8_cause_37 : decode cX8_cause 37 = .ok (.isub, 1) := by decide +kernel
theorem dX8_cause_38 : decode cX8_cause 38 = .ok (.invokestatic 82, 3) := by decide +kernel
theorem dX8_cause_41 : decode cX8_cause 41 = .ok (.ifCond .ne 5, 3) := by decide +kernel
theorem dX8_cause_44 : decode cX8_cause 44 = .ok (.iconst (-1), 1) := by decide +kernel
theorem dX8_cause_45 : decode cX8_cause 45 = .ok (.ireturn, 1) := by decide +kernel
theorem dX8_cause_46 : decode cX8_cause 46 = .ok (.aload_n 0, 1) := by decide +kernel
theorem dX8_cause_47 : decode cX8_cause 47 = .ok (.getfield 23, 3) := by decide +kernel
theorem dX8_cause_50 : decode cX8_cause 50 = .ok (.sipush 274, 3) := by decide +kernel
theorem dX8_cause_53 : decode cX8_cause 53 = .ok (.iconst 2, 1) := by decide +kernel
theorem dX8_cause_54 : decode cX8_cause 54 = .ok (.iload_n 1, 1) := by decide +kernel
theorem dX8_cause_55 : decode cX8_cause 55 = .ok (.imul, 1) := by decide +kernel
theorem dX8_cause_56 : decode cX8_cause 56 = .ok (.iadd, 1) := by decide +kernel
theorem dX8_cause_57 : decode cX8_cause 57 = .ok (.iaload, 1) := by decide +kernel
theorem dX8_cause_58 : decode cX8_cause 58 = .ok (.istore_n 3, 1) := by decide +kernel
theorem dX8_cause_59 : decode cX8_cause 59 = .ok (.iload_n 2, 1) := by decide +kernel
theorem dX8_cause_60 : decode cX8_cause 60 = .ok (.ifCond .ne 9, 3) := by decide +kernel
theorem dX8_cause_63 : decode cX8_cause 63 = .ok (.iload_n 3, 1) := by decide +kernel
theorem dX8_cause_64 : decode cX8_cause 64 = .ok (.iconst 4, 1) := by decide +kernel
theorem dX8_cause_65 : decode cX8_cause 65 = .ok (.idiv, 1) := by decide +kernel
theorem dX8_cause_66 : decode cX8_cause 66 = .ok (.goto 28, 3) := by decide +kernel
theorem dX8_cause_69 : decode cX8_cause 69 = .ok (.iload_n 2, 1) := by decide +kernel
theorem dX8_cause_70 : decode cX8_cause 70 = .ok (.iconst 1, 1) := by decide +kernel
theorem dX8_cause_71 : decode cX8_cause 71 = .ok (.if_icmp .ne 9, 3) := by decide +kernel
theorem dX8_cause_74 : decode cX8_cause 74 = .ok (.iload_n 3, 1) := by decide +kernel
theorem dX8_cause_75 : decode cX8_cause 75 = .ok (.iconst 4, 1) := by decide +kernel
theorem dX8_cause_76 : decode cX8_cause 76 = .ok (.irem, 1) := by decide +kernel
theorem dX8_cause_77 : decode cX8_cause 77 = .ok (.goto 17, 3) := by decide +kernel
theorem dX8_cause_80 : decode cX8_cause 80 = .ok (.aload_n 0, 1) := by decide +kernel
theorem dX8_cause_81 : decode cX8_cause 81 = .ok (.getfield 23, 3) := by decide +kernel
theorem dX8_cause_84 : decode cX8_cause 84 = .ok (.sipush 274, 3) := by decide +kernel
theorem dX8_cause_87 : decode cX8_cause 87 = .ok (.iconst 2, 1) := by decide +kernel
theorem dX8_cause_88 : decode cX8_cause 88 = .ok (.iload_n 1, 1) := by decide +kernel
theorem dX8_cause_89 : decode cX8_cause 89 = .ok (.imul, 1) := by decide +kernel
theorem dX8_cause_90 : decode cX8_cause 90 = .ok (.iadd, 1) := by decide +kernel
theorem dX8_cause_91 : decode cX8_cause 91 = .ok (.iconst 1, 1) := by decide +kernel
theorem dX8_cause_92 : decode cX8_cause 92 = .ok (.iadd, 1) := by decide +kernel
theorem dX8_cause_93 : decode cX8_cause 93 = .ok (.iaload, 1) := by decide +kernel
theorem dX8_cause_94 : decode cX8_cause 94 = .ok (.ireturn, 1) := by decide +kernel
theorem dX8_counts_0 : decode cX8_counts 0 = .ok (.iconst 4, 1) := by decide +kernel
theorem dX8_counts_1 : decode cX8_counts 1 = .ok (.iload_n 1, 1) := by decide +kernel
theorem dX8_counts_2 : decode cX8_counts 2 = .ok (.imul, 1) := by decide +kernel
theorem dX8_counts_3 : decode cX8_counts 3 = .ok (.iload_n 2, 1) := by decide +kernel
theorem dX8_counts_4 : decode cX8_counts 4 = .ok (.iadd, 1) := by decide +kernel
theorem dX8_counts_5 : decode cX8_counts 5 = .ok (.istore_n 3, 1) := by decide +kernel
theorem dX8_counts_6 : decode cX8_counts 6 = .ok (.iconst 0, 1) := by decide +kernel
theorem dX8_counts_7 : decode cX8_counts 7 = .ok (.istore 4, 2) := by decide +kernel
theorem dX8_counts_9 : decode cX8_counts 9 = .ok (.iload 4, 2) := by decide +kernel
theorem dX8_counts_11 : decode cX8_counts 11 = .ok (.aload_n 0, 1) := by decide +kernel
theorem dX8_counts_12 : decode cX8_counts 12 = .ok (.getfield 23, 3) := by decide +kernel
theorem dX8_counts_15 : decode cX8_counts 15 = .ok (.bipush 13, 2) := by decide +kernel
theorem dX8_counts_17 : decode cX8_counts 17 = .ok (.iaload, 1) := by decide +kernel
theorem dX8_counts_18 : decode cX8_counts 18 = .ok (.if_icmp .ge 26, 3) := by decide +kernel
theorem dX8_counts_21 : decode cX8_counts 21 = .ok (.aload_n 0, 1) := by decide +kernel
theorem dX8_counts_22 : decode cX8_counts 22 = .ok (.getfield 23, 3) := by decide +kernel
theorem dX8_counts_25 : decode cX8_counts 25 = .ok (.sipush 274, 3) := by decide +kernel
theorem dX8_counts_28 : decode cX8_counts 28 = .ok (.iconst 2, 1) := by decide +kernel
theorem dX8_counts_29 : decode cX8_counts 29 = .ok (.iload 4, 2) := by decide +kernel
theorem dX8_counts_31 : decode cX8_counts 31 = .ok (.imul, 1) := by decide +kernel
theorem dX8_counts_32 : decode cX8_counts 32 = .ok (.iadd, 1) := by decide +kernel
theorem dX8_counts_33 : decode cX8_counts 33 = .ok (.iaload, 1) := by decide +kernel
theorem dX8_counts_34 : decode cX8_counts 34 = .ok (.iload_n 3, 1) := by decide +kernel
theorem dX8_counts_35 : decode cX8_counts 35 = .ok (.if_icmp .eq 9, 3) := by decide +kernel
theorem dX8_counts_38 : decode cX8_counts 38 = .ok (.iinc 4 1, 3) := by decide +kernel
theorem dX8_counts_41 : decode cX8_counts 41 = .ok (.goto (-32), 3) := by decide +kernel
theorem dX8_counts_44 : decode cX8_counts 44 = .ok (.iload 4, 2) := by decide +kernel
theorem dX8_counts_46 : decode cX8_counts 46 = .ok (.aload_n 0, 1) := by decide +kernel
theorem dX8_counts_47 : decode cX8_counts 47 = .ok (.getfield 23, 3) := by decide +kernel
theorem dX8_counts_50 : decode cX8_counts 50 = .ok (.bipush 13, 2) := by decide +kernel
theorem dX8_counts_52 : decode cX8_counts 52 = .ok (.iaload, 1) := by decide +kernel
theorem dX8_counts_53 : decode cX8_counts 53 = .ok (.if_icmp .ne 44, 3) := by decide +kernel
theorem dX8_counts_56 : decode cX8_counts 56 = .ok (.aload_n 0, 1) := by decide +kernel
theorem dX8_counts_57 : decode cX8_counts 57 = .ok (.getfield 23, 3) := by decide +kernel
theorem dX8_counts_60 : decode cX8_counts 60 = .ok (.sipush 274, 3) := by decide +kernel
theorem dX8_counts_63 : decode cX8_counts 63 = .ok (.iconst 2, 1) := by decide +kernel
theorem dX8_counts_64 : decode cX8_counts 64 = .ok (.iload 4, 2) := by decide +kernel
theorem dX8_counts_66 : decode cX8_counts 66 = .ok (.imul, 1) := by decide +kernel
theorem dX8_counts_67 : decode cX8_counts 67 = .ok (.iadd, 1) := by decide +kernel
theorem dX8_counts_68 : decode cX8_counts 68 = .ok (.iload_n 3, 1) := by decide +kernel
theorem dX8_counts_69 : decode cX8_counts 69 = .ok (.iastore, 1) := by decide +kernel
theorem dX8_counts_70 : decode cX8_counts 70 = .ok (.aload_n 0, 1) := by decide +kernel
theorem dX8_counts_71 : decode cX8_counts 71 = .ok (.getfield 23, 3) := by decide +kernel
theorem dX8_counts_74 : decode cX8_counts 74 = .ok (.sipush 274, 3) := by decide +kernel
theorem dX8_counts_77 : decode cX8_counts 77 = .ok (.iconst 2, 1) := by decide +kernel
theorem dX8_counts_78 : decode cX8_counts 78 = .ok (.iload 4, 2) := by decide +kernel
theorem dX8_counts_80 : decode cX8_counts 80 = .ok (.imul, 1) := by decide +kernel
theorem dX8_counts_81 : decode cX8_counts 81 = .ok (.iadd, 1) := by decide +kernel
theorem dX8_counts_82 : decode cX8_counts 82 = .ok (.iconst 1, 1) := by decide +kernel
theorem dX8_counts_83 : decode cX8_counts 83 = .ok (.iadd, 1) := by decide +kernel
theorem dX8_counts_84 : decode cX8_counts 84 = .ok (.iconst 0, 1) := by decide +kernel
theorem dX8_counts_85 : decode cX8_counts 85 = .ok (.iastore, 1) := by decide +kernel
theorem dX8_counts_86 : decode cX8_counts 86 = .ok (.aload_n 0, 1) := by decide +kernel
theorem dX8_counts_87 : decode cX8_counts 87 = .ok (.getfield 23, 3) := by decide +kernel
theorem dX8_counts_90 : decode cX8_counts 90 = .ok (.bipush 13, 2) := by decide +kernel
theorem dX8_counts_92 : decode cX8_counts 92 = .ok (.dup2, 1) := by decide +kernel
theorem dX8_counts_93 : decode cX8_counts 93 = .ok (.iaload, 1) := by decide +kernel
theorem dX8_counts_94 : decode cX8_counts 94 = .ok (.iconst 1, 1) := by decide +kernel
theorem dX8_counts_95 : decode cX8_counts 95 = .ok (.iadd, 1) := by decide +kernel
theorem dX8_counts_96 : decode cX8_counts 96 = .ok (.iastore, 1) := by decide +kernel
theorem dX8_counts_97 : decode cX8_counts 97 = .ok (.aload_n 0, 1) := by decide +kernel
theorem dX8_counts_98 : decode cX8_counts 98 = .ok (.getfield 23, 3) := by decide +kernel
theorem dX8_counts_101 : decode cX8_counts 101 = .ok (.sipush 274, 3) := by decide +kernel
theorem dX8_counts_104 : decode cX8_counts 104 = .ok (.iconst 2, 1) := by decide +kernel
theorem dX8_counts_105 : decode cX8_counts 105 = .ok (.iload 4, 2) := by decide +kernel
theorem dX8_counts_107 : decode cX8_counts 107 = .ok (.imul, 1) := by decide +kernel
theorem dX8_counts_108 : decode cX8_counts 108 = .ok (.iadd, 1) := by decide +kernel
theorem dX8_counts_109 : decode cX8_counts 109 = .ok (.iconst 1, 1) := by decide +kernel
theorem dX8_counts_110 : decode cX8_counts 110 = .ok (.iadd, 1) := by decide +kernel
theorem dX8_counts_111 : decode cX8_counts 111 = .ok (.dup2, 1) := by decide +kernel
theorem dX8_counts_112 : decode cX8_counts 112 = .ok (.iaload, 1) := by decide +kernel
theorem dX8_counts_113 : decode cX8_counts 113 = .ok (.iconst 1, 1) := by decide +kernel
theorem dX8_counts_114 : decode cX8_counts 114 = .ok (.iadd, 1) := by decide +kernel
theorem dX8_counts_115 : decode cX8_counts 115 = .ok (.iastore, 1) := by decide +kernel
theorem dX8_counts_116 : decode cX8_counts 116 = .ok (.aload_n 0, 1) := by decide +kernel
theorem dX8_counts_117 : decode cX8_counts 117 = .ok (.getfield 23, 3) := by decide +kernel
theorem dX8_counts_120 : decode cX8_counts 120 = .ok (.bipush 11, 2) := by decide +kernel
theorem dX8_counts_122 : decode cX8_counts 122 = .ok (.dup2, 1) := by decide +kernel
theorem dX8_counts_123 : decode cX8_counts 123 = .ok (.iaload, 1) := by decide +kernel
theorem dX8_counts_124 : decode cX8_counts 124 = .ok (.iconst 1, 1) := by decide +kernel
theorem dX8_counts_125 : decode cX8_counts 125 = .ok (.iadd, 1) := by decide +kernel
theorem dX8_counts_126 : decode cX8_counts 126 = .ok (.iastore, 1) := by decide +kernel
theorem dX8_counts_127 : decode cX8_counts 127 = .ok (.return_, 1) := by decide +kernel
theorem dX8_scoreWith_0 : decode cX8_scoreWith 0 = .ok (.aload_n 0, 1) := by decide +kernel
theorem dX8_scoreWith_1 : decode cX8_scoreWith 1 = .ok (.aload_n 0, 1) := by decide +kernel
theorem dX8_scoreWith_2 : decode cX8_scoreWith 2 = .ok (.iload_n 1, 1) := by decide +kernel
theorem dX8_scoreWith_3 : decode cX8_scoreWith 3 = .ok (.invokevirtual 253, 3) := by decide +kernel
theorem dX8_scoreWith_6 : decode cX8_scoreWith 6 = .ok (.ifCond .ne 7, 3) := by decide +kernel
theorem dX8_scoreWith_9 : decode cX8_scoreWith 9 = .ok (.iconst 1, 1) := by decide +kernel
theorem dX8_scoreWith_10 : decode cX8_scoreWith 10 = .ok (.goto 17, 3) := by decide +kernel
theorem dX8_scoreWith_13 : decode cX8_scoreWith 13 = .ok (.iload_n 2, 1) := by decide +kernel
theorem dX8_scoreWith_14 : decode cX8_scoreWith 14 = .ok (.iconst 0, 1) := by decide +kernel
theorem dX8_scoreWith_15 : decode cX8_scoreWith 15 = .ok (.iconst 3, 1) := by decide +kernel
theorem dX8_scoreWith_16 : decode cX8_scoreWith 16 = .ok (.invokestatic 82, 3) := by decide +kernel
theorem dX8_scoreWith_19 : decode cX8_scoreWith 19 = .ok (.ifCond .ne 7, 3) := by decide +kernel
theorem dX8_scoreWith_22 : decode cX8_scoreWith 22 = .ok (.iconst 2, 1) := by decide +kernel
theorem dX8_scoreWith_23 : decode cX8_scoreWith 23 = .ok (.goto 4, 3) := by decide +kernel
theorem dX8_scoreWith_26 : decode cX8_scoreWith 26 = .ok (.iconst 0, 1) := by decide +kernel
theorem dX8_scoreWith_27 : decode cX8_scoreWith 27 = .ok (.putfield 55, 3) := by decide +kernel
theorem dX8_scoreWith_30 : decode cX8_scoreWith 30 = .ok (.aload_n 0, 1) := by decide +kernel
theorem dX8_scoreWith_31 : decode cX8_scoreWith 31 = .ok (.getfield 55, 3) := by decide +kernel
theorem dX8_scoreWith_34 : decode cX8_scoreWith 34 = .ok (.ifCond .le 5, 3) := by decide +kernel
theorem dX8_scoreWith_37 : decode cX8_scoreWith 37 = .ok (.iconst 0, 1) := by decide +kernel
theorem dX8_scoreWith_38 : decode cX8_scoreWith 38 = .ok (.ireturn, 1) := by decide +kernel
theorem dX8_scoreWith_39 : decode cX8_scoreWith 39 = .ok (.aload_n 0, 1) := by decide +kernel
theorem dX8_scoreWith_40 : decode cX8_scoreWith 40 = .ok (.iload_n 1, 1) := by decide +kernel
theorem dX8_scoreWith_41 : decode cX8_scoreWith 41 = .ok (.invokevirtual 206, 3) := by decide +kernel
theorem dX8_scoreWith_44 : decode cX8_scoreWith 44 = .ok (.ifCond .eq 12, 3) := by decide +kernel
theorem dX8_scoreWith_47 : decode cX8_scoreWith 47 = .ok (.aload_n 0, 1) := by decide +kernel
theorem dX8_scoreWith_48 : decode cX8_scoreWith 48 = .ok (.iload_n 1, 1) := by decide +kernel
theorem dX8_scoreWith_49 : decode cX8_scoreWith 49 = .ok (.iload_n 2, 1) := by decide +kernel
theorem dX8_scoreWith_50 : decode cX8_scoreWith 50 = .ok (.invokevirtual 271, 3) := by decide +kernel
theorem dX8_scoreWith_53 : decode cX8_scoreWith 53 = .ok (.goto 4, 3) := by decide +kernel
theorem dX8_scoreWith_56 : decode cX8_scoreWith 56 = .ok (.iconst (-1), 1) := by decide +kernel
theorem dX8_scoreWith_57 : decode cX8_scoreWith 57 = .ok (.ireturn, 1) := by decide +kernel
theorem dX8_feared_0 : decode cX8_feared 0 = .ok (.aload_n 0, 1) := by decide +kernel
theorem dX8_feared_1 : decode cX8_feared 1 = .ok (.aload_n 0, 1) := by decide +kernel
theorem dX8_feared_2 : decode cX8_feared 2 = .ok (.iload_n 1, 1) := by decide +kernel
theorem dX8_feared_3 : decode cX8_feared 3 = .ok (.invokevirtual 253, 3) := by decide +kernel
theorem dX8_feared_6 : decode cX8_feared 6 = .ok (.ifCond .eq 7, 3) := by decide +kernel
theorem dX8_feared_9 : decode cX8_feared 9 = .ok (.iconst 0, 1) := by decide +kernel
theorem dX8_feared_10 : decode cX8_feared 10 = .ok (.goto 4, 3) := by decide +kernel
theorem dX8_feared_13 : decode cX8_feared 13 = .ok (.iconst 1, 1) := by decide +kernel
theorem dX8_feared_14 : decode cX8_feared 14 = .ok (.putfield 55, 3) := by decide +kernel
theorem dX8_feared_17 : decode cX8_feared 17 = .ok (.aload_n 0, 1) := by decide +kernel
theorem dX8_feared_18 : decode cX8_feared 18 = .ok (.getfield 55, 3) := by decide +kernel
theorem dX8_feared_21 : decode cX8_feared 21 = .ok (.ifCond .le 5, 3) := by decide +kernel
theorem dX8_feared_24 : decode cX8_feared 24 = .ok (.iconst 0, 1) := by decide +kernel
theorem dX8_feared_25 : decode cX8_feared 25 = .ok (.ireturn, 1) := by decide +kernel
theorem dX8_feared_26 : decode cX8_feared 26 = .ok (.iconst 0, 1) := by decide +kernel
theorem dX8_feared_27 : decode cX8_feared 27 = .ok (.istore_n 2, 1) := by decide +kernel
theorem dX8_feared_28 : decode cX8_feared 28 = .ok (.iload_n 2, 1) := by decide +kernel
theorem dX8_feared_29 : decode cX8_feared 29 = .ok (.iconst 4, 1) := by decide +kernel
theorem dX8_feared_30 : decode cX8_feared 30 = .ok (.if_icmp .ge 34, 3) := by decide +kernel
theorem dX8_feared_33 : decode cX8_feared 33 = .ok (.aload_n 0, 1) := by decide +kernel
theorem dX8_feared_34 : decode cX8_feared 34 = .ok (.iload_n 1, 1) := by decide +kernel
theorem dX8_feared_35 : decode cX8_feared 35 = .ok (.invokevirtual 215, 3) := by decide +kernel
theorem dX8_feared_38 : decode cX8_feared 38 = .ok (.ifCond .eq 26, 3) := by decide +kernel
theorem dX8_feared_41 : decode cX8_feared 41 = .ok (.aload_n 0, 1) := by decide +kernel
theorem dX8_feared_42 : decode cX8_feared 42 = .ok (.iload_n 1, 1) := by decide +kernel
theorem dX8_feared_43 : decode cX8_feared 43 = .ok (.iload_n 2, 1) := by decide +kernel
theorem dX8_feared_44 : decode cX8_feared 44 = .ok (.invokevirtual 271, 3) := by decide +kernel
theorem dX8_feared_47 : decode cX8_feared 47 = .ok (.aload_n 0, 1) := by decide +kernel
theorem dX8_feared_48 : decode cX8_feared 48 = .ok (.getfield 23, 3) := by decide +kernel
theorem dX8_feared_51 : decode cX8_feared 51 = .ok (.iconst 1, 1) := by decide +kernel
theorem dX8_feared_52 : decode cX8_feared 52 = .ok (.iaload, 1) := by decide +kernel
theorem dX8_feared_53 : decode cX8_feared 53 = .ok (.if_icmp .lt 5, 3) := by decide +kernel
theorem dX8_feared_56 : decode cX8_feared 56 = .ok (.iload_n 2, 1) := by decide +kernel
theorem dX8_feared_57 : decode cX8_feared 57 = .ok (.ireturn, 1) := by decide +kernel
theorem dX8_feared_58 : decode cX8_feared 58 = .ok (.iinc 2 1, 3) := by decide +kernel
theorem dX8_feared_61 : decode cX8_feared 61 = .ok (.goto (-33), 3) := by decide +kernel
theorem dX8_feared_64 : decode cX8_feared 64 = .ok (.iconst (-1), 1) := by decide +kernel
theorem dX8_feared_65 : decode cX8_feared 65 = .ok (.ireturn, 1) := by decide +kernel
theorem dX8_clearing_0 : decode cX8_clearing 0 = .ok (.iconst 0, 1) := by decide +kernel
theorem dX8_clearing_1 : decode cX8_clearing 1 = .ok (.istore_n 2, 1) := by decide +kernel
theorem dX8_clearing_2 : decode cX8_clearing 2 = .ok (.iconst 0, 1) := by decide +kernel
theorem dX8_clearing_3 : decode cX8_clearing 3 = .ok (.istore_n 3, 1) := by decide +kernel
theorem dX8_clearing_4 : decode cX8_clearing 4 = .ok (.iload_n 3, 1) := by decide +kernel
theorem dX8_clearing_5 : decode cX8_clearing 5 = .ok (.aload_n 0, 1) := by decide +kernel
theorem dX8_clearing_6 : decode cX8_clearing 6 = .ok (.invokevirtual 184, 3) := by decide +kernel
theorem dX8_clearing_9 : decode cX8_clearing 9 = .ok (.if_icmp .ge 81, 3) := by decide +kernel
theorem dX8_clearing_12 : decode cX8_clearing 12 = .ok (.aload_n 0, 1) := by decide +kernel
theorem dX8_clearing_13 : decode cX8_clearing 13 = .ok (.iload_n 3, 1) := by decide +kernel
theorem dX8_clearing_14 : decode cX8_clearing 14 = .ok (.iload_n 1, 1) := by decide +kernel
theorem dX8_clearing_15 : decode cX8_clearing 15 = .ok (.invokevirtual 250, 3) := by decide +kernel
theorem dX8_clearing_18 : decode cX8_clearing 18 = .ok (.ifCond .eq 66, 3) := by decide +kernel
theorem dX8_clearing_21 : decode cX8_clearing 21 = .ok (.aload_n 0, 1) := by decide +kernel
theorem dX8_clearing_22 : decode cX8_clearing 22 = .ok (.getfield 23, 3) := by decide +kernel
theorem dX8_clearing_25 : decode cX8_clearing 25 = .ok (.iload_n 3, 1) := by decide +kernel
theorem dX8_clearing_26 : decode cX8_clearing 26 = .ok (.invokestatic 193, 3) := by decide +kernel
theorem dX8_clearing_29 : decode cX8_clearing 29 = .ok (.iconst 2, 1) := by decide +kernel
theorem dX8_clearing_30 : decode cX8_clearing 30 = .ok (.iadd, 1) := by decide +kernel
theorem dX8_clearing_31 : decode cX8_clearing 31 = .ok (.iaload, 1) := by decide +kernel
theorem dX8_clearing_32 : decode cX8_clearing 32 = .ok (.ifCond .ne 6, 3) := by decide +kernel
theorem dX8_clearing_35 : decode cX8_clearing 35 = .ok (.goto 49, 3) := by decide +kernel
theorem dX8_clearing_38 : decode cX8_clearing 38 = .ok (.aload_n 0, 1) := by decide +kernel
theorem dX8_clearing_39 : decode cX8_clearing 39 = .ok (.iload_n 3, 1) := by decide +kernel
theorem dX8_clearing_40 : decode cX8_clearing 40 = .ok (.invokevirtual 268, 3) := by decide +kernel
theorem dX8_clearing_43 : decode cX8_clearing 43 = .ok (.aload_n 0, 1) := by decide +kernel
theorem dX8_clearing_44 : decode cX8_clearing 44 = .ok (.getfield 23, 3) := by decide +kernel
theorem dX8_clearing_47 : decode cX8_clearing 47 = .ok (.iload_n 3, 1) := by decide +kernel
theorem dX8_clearing_48 : decode cX8_clearing 48 = .ok (.invokestatic 193, 3) := by decide +kernel
theorem dX8_clearing_51 : decode cX8_clearing 51 = .ok (.iconst 2, 1) := by decide +kernel
theorem dX8_clearing_52 : decode cX8_clearing 52 = .ok (.iadd, 1) := by decide +kernel
theorem dX8_clearing_53 : decode cX8_clearing 53 = .ok (.iaload, 1) := by decide +kernel
theorem dX8_clearing_54 : decode cX8_clearing 54 = .ok (.isub, 1) := by decide +kernel
theorem dX8_clearing_55 : decode cX8_clearing 55 = .ok (.aload_n 0, 1) := by decide +kernel
theorem dX8_clearing_56 : decode cX8_clearing 56 = .ok (.iload_n 3, 1) := by decide +kernel
theorem dX8_clearing_57 : decode cX8_clearing 57 = .ok (.invokevirtual 218, 3) := by decide +kernel
theorem dX8_clearing_60 : decode cX8_clearing 60 = .ok (.iadd, 1) := by decide +kernel
theorem dX8_clearing_61 : decode cX8_clearing 61 = .ok (.iconst 1, 1) := by decide +kernel
theorem dX8_clearing_62 : decode cX8_clearing 62 = .ok (.isub, 1) := by decide +kernel
theorem dX8_clearing_63 : decode cX8_clearing 63 = .ok (.aload_n 0, 1) := by decide +kernel
theorem dX8_clearing_64 : decode cX8_clearing 64 = .ok (.iload_n 3, 1) := by decide +kernel
theorem dX8_clearing_65 : decode cX8_clearing 65 = .ok (.invokevirtual 218, 3) := by decide +kernel
theorem dX8_clearing_68 : decode cX8_clearing 68 = .ok (.idiv, 1) := by decide +kernel
theorem dX8_clearing_69 : decode cX8_clearing 69 = .ok (.istore 4, 2) := by decide +kernel
theorem dX8_clearing_71 : decode cX8_clearing 71 = .ok (.iload 4, 2) := by decide +kernel
theorem dX8_clearing_73 : decode cX8_clearing 73 = .ok (.iload_n 2, 1) := by decide +kernel
theorem dX8_clearing_74 : decode cX8_clearing 74 = .ok (.if_icmp .le 8, 3) := by decide +kernel
theorem dX8_clearing_77 : decode cX8_clearing 77 = .ok (.iload 4, 2) := by decide +kernel
theorem dX8_clearing_79 : decode cX8_clearing 79 = .ok (.goto 4, 3) := by decide +kernel
theorem dX8_clearing_82 : decode cX8_clearing 82 = .ok (.iload_n 2, 1) := by decide +kernel
theorem dX8_clearing_83 : decode cX8_clearing 83 = .ok (.istore_n 2, 1) := by decide +kernel
theorem dX8_clearing_84 : decode cX8_clearing 84 = .ok (.iinc 3 1, 3) := by decide +kernel
theorem dX8_clearing_87 : decode cX8_clearing 87 = .ok (.goto (-83), 3) := by decide +kernel
theorem dX8_clearing_90 : decode cX8_clearing 90 = .ok (.iload_n 2, 1) := by decide +kernel
theorem dX8_clearing_91 : decode cX8_clearing 91 = .ok (.ireturn, 1) := by decide +kernel
theorem dX8_framesToClear_0 : decode cX8_framesToClear 0 = .ok (.aload_n 0, 1) := by decide +kernel
theorem dX8_framesToClear_1 : decode cX8_framesToClear 1 = .ok (.aload_n 0, 1) := by decide +kernel
theorem dX8_framesToClear_2 : decode cX8_framesToClear 2 = .ok (.iload_n 1, 1) := by decide +kernel
theorem dX8_framesToClear_3 : decode cX8_framesToClear 3 = .ok (.invokevirtual 253, 3) := by decide +kernel
theorem dX8_framesToClear_6 : decode cX8_framesToClear 6 = .ok (.ifCond .eq 7, 3) := by decide +kernel
theorem dX8_framesToClear_9 : decode cX8_framesToClear 9 = .ok (.iconst 0, 1) := by decide +kernel
theorem dX8_framesToClear_10 : decode cX8_framesToClear 10 = .ok (.goto 4, 3) := by decide +kernel
theorem dX8_framesToClear_13 : decode cX8_framesToClear 13 = .ok (.iconst 1, 1) := by decide +kernel
theorem dX8_framesToClear_14 : decode cX8_framesToClear 14 = .ok (.putfield 55, 3) := by decide +kernel
theorem dX8_framesToClear_17 : decode cX8_framesToClear 17 = .ok (.aload_n 0, 1) := by decide +kernel
theorem dX8_framesToClear_18 : decode cX8_framesToClear 18 = .ok (.getfield 55, 3) := by decide +kernel
theorem dX8_framesToClear_21 : decode cX8_framesToClear 21 = .ok (.ifCond .ne 11, 3) := by decide +kernel
theorem dX8_framesToClear_24 : decode cX8_framesToClear 24 = .ok (.aload_n 0, 1) := by decide +kernel
theorem dX8_framesToClear_25 : decode cX8_framesToClear 25 = .ok (.iload_n 1, 1) := by decide +kernel
theorem dX8_framesToClear_26 : decode cX8_framesToClear 26 = .ok (.invokevirtual 274, 3) := by decide +kernel
theorem dX8_framesToClear_29 : decode cX8_framesToClear 29 = .ok (.goto 4, 3) := by decide +kernel
theorem dX8_framesToClear_32 : decode cX8_framesToClear 32 = .ok (.iconst 0, 1) := by decide +kernel
theorem dX8_framesToClear_33 : decode cX8_framesToClear 33 = .ok (.ireturn, 1) := by decide +kernel
theorem dX8_stake_0 : decode cX8_stake 0 = .ok (.iconst 0, 1) := by decide +kernel
theorem dX8_stake_1 : decode cX8_stake 1 = .ok (.istore_n 2, 1) := by decide +kernel
theorem dX8_stake_2 : decode cX8_stake 2 = .ok (.iconst 0, 1) := by decide +kernel
theorem dX8_stake_3 : decode cX8_stake 3 = .ok (.istore_n 3, 1) := by decide +kernel
theorem dX8_stake_4 : decode cX8_stake 4 = .ok (.iload_n 3, 1) := by decide +kernel
theorem dX8_stake_5 : decode cX8_stake 5 = .ok (.aload_n 0, 1) := by decide +kernel
theorem dX8_stake_6 : decode cX8_stake 6 = .ok (.invokevirtual 184, 3) := by decide +kernel
theorem dX8_stake_9 : decode cX8_stake 9 = .ok (.if_icmp .ge 36, 3) := by decide +kernel
theorem dX8_stake_12 : decode cX8_stake 12 = .ok (.iload_n 2, 1) := by decide +kernel
theorem dX8_stake_13 : decode cX8_stake 13 = .ok (.aload_n 0, 1) := by decide +kernel
theorem dX8_stake_14 : decode cX8_stake 14 = .ok (.iload_n 3, 1) := by decide +kernel
theorem dX8_stake_15 : decode cX8_stake 15 = .ok (.iload_n 1, 1) := by decide +kernel
theorem dX8_stake_16 : decode cX8_stake 16 = .ok (.invokevirtual 250, 3) := by decide +kernel
theorem dX8_stake_19 : decode cX8_stake 19 = .ok (.ifCond .eq 17, 3) := by decide +kernel
theorem dX8_stake_22 : decode cX8_stake 22 = .ok (.aload_n 0, 1) := by decide +kernel
theorem dX8_stake_23 : decode cX8_stake 23 = .ok (.getfield 23, 3) := by decide +kernel
theorem dX8_stake_26 : decode cX8_stake 26 = .ok (.iload_n 3, 1) := by decide +kernel
theorem dX8_stake_27 : decode cX8_stake 27 = .ok (.invokestatic 193, 3) := by decide +kernel
theorem dX8_stake_30 : decode cX8_stake 30 = .ok (.iconst 2, 1) := by decide +kernel
theorem dX8_stake_31 : decode cX8_stake 31 = .ok (.iadd, 1) := by decide +kernel
theorem dX8_stake_32 : decode cX8_stake 32 = .ok (.iaload, 1) := by decide +kernel
theorem dX8_stake_33 : decode cX8_stake 33 = .ok (.goto 4, 3) := by decide +kernel
theorem dX8_stake_36 : decode cX8_stake 36 = .ok (.iconst 0, 1) := by decide +kernel
theorem dX8_stake_37 : decode cX8_stake 37 = .ok (.iadd, 1) := by decide +kernel
theorem dX8_stake_38 : decode cX8_stake 38 = .ok (.istore_n 2, 1) := by decide +kernel
theorem dX8_stake_39 : decode cX8_stake 39 = .ok (.iinc 3 1, 3) := by decide +kernel
theorem dX8_stake_42 : decode cX8_stake 42 = .ok (.goto (-38), 3) := by decide +kernel
theorem dX8_stake_45 : decode cX8_stake 45 = .ok (.iload_n 2, 1) := by decide +kernel
theorem dX8_stake_46 : decode cX8_stake 46 = .ok (.ireturn, 1) := by decide +kernel
theorem dX8_atStake_0 : decode cX8_atStake 0 = .ok (.aload_n 0, 1) := by decide +kernel
theorem dX8_atStake_1 : decode cX8_atStake 1 = .ok (.aload_n 0, 1) := by decide +kernel
theorem dX8_atStake_2 : decode cX8_atStake 2 = .ok (.iload_n 1, 1) := by decide +kernel
theorem dX8_atStake_3 : decode cX8_atStake 3 = .ok (.invokevirtual 253, 3) := by decide +kernel
theorem dX8_atStake_6 : decode cX8_atStake 6 = .ok (.ifCond .eq 7, 3) := by decide +kernel
theorem dX8_atStake_9 : decode cX8_atStake 9 = .ok (.iconst 0, 1) := by decide +kernel
theorem dX8_atStake_10 : decode cX8_atStake 10 = .ok (.goto 4, 3) := by decide +kernel
theorem dX8_atStake_13 : decode cX8_atStake 13 = .ok (.iconst 1, 1) := by decide +kernel
theorem dX8_atStake_14 : decode cX8_atStake 14 = .ok (.putfield 55, 3) := by decide +kernel
theorem dX8_atStake_17 : decode cX8_atStake 17 = .ok (.aload_n 0, 1) := by decide +kernel
theorem dX8_atStake_18 : decode cX8_atStake 18 = .ok (.getfield 55, 3) := by decide +kernel
theorem dX8_atStake_21 : decode cX8_atStake 21 = .ok (.ifCond .ne 11, 3) := by decide +kernel
theorem dX8_atStake_24 : decode cX8_atStake 24 = .ok (.aload_n 0, 1) := by decide +kernel
theorem dX8_atStake_25 : decode cX8_atStake 25 = .ok (.iload_n 1, 1) := by decide +kernel
theorem dX8_atStake_26 : decode cX8_atStake 26 = .ok (.invokevirtual 277, 3) := by decide +kernel
theorem dX8_atStake_29 : decode cX8_atStake 29 = .ok (.goto 4, 3) := by decide +kernel
theorem dX8_atStake_32 : decode cX8_atStake 32 = .ok (.iconst 0, 1) := by decide +kernel
theorem dX8_atStake_33 : decode cX8_atStake 33 = .ok (.ireturn, 1) := by decide +kernel
theorem dX8_weakest_0 : decode cX8_weakest 0 = .ok (.aload_n 0, 1) := by decide +kernel
theorem dX8_weakest_1 : decode cX8_weakest 1 = .ok (.iconst 0, 1) := by decide +kernel
theorem dX8_weakest_2 : decode cX8_weakest 2 = .ok (.putfield 55, 3) := by decide +kernel
theorem dX8_weakest_5 : decode cX8_weakest 5 = .ok (.iconst (-1), 1) := by decide +kernel
theorem dX8_weakest_6 : decode cX8_weakest 6 = .ok (.istore_n 1, 1) := by decide +kernel
theorem dX8_weakest_7 : decode cX8_weakest 7 = .ok (.iconst 0, 1) := by decide +kernel
theorem dX8_weakest_8 : decode cX8_weakest 8 = .ok (.istore_n 2, 1) := by decide +kernel
theorem dX8_weakest_9 : decode cX8_weakest 9 = .ok (.iload_n 2, 1) := by decide +kernel
theorem dX8_weakest_10 : decode cX8_weakest 10 = .ok (.aload_n 0, 1) := by decide +kernel
theorem dX8_weakest_11 : decode cX8_weakest 11 = .ok (.invokevirtual 187, 3) := by decide +kernel
theorem dX8_weakest_14 : decode cX8_weakest 14 = .ok (.if_icmp .ge 41, 3) := by decide +kernel
theorem dX8_weakest_17 : decode cX8_weakest 17 = .ok (.aload_n 0, 1) := by decide +kernel
theorem dX8_weakest_18 : decode cX8_weakest 18 = .ok (.iload_n 2, 1) := by decide +kernel
theorem dX8_weakest_19 : decode cX8_weakest 19 = .ok (.invokevirtual 206, 3) := by decide +kernel
theorem dX8_weakest_22 : decode cX8_weakest 22 = .ok (.ifCond .eq 25, 3) := by decide +kernel
theorem dX8_weakest_25 : decode cX8_weakest 25 = .ok (.iload_n 1, 1) := by decide +kernel
theorem dX8_weakest_26 : decode cX8_weakest 26 = .ok (.iconst (-1), 1) := by decide +kernel
theorem dX8_weakest_27 : decode cX8_weakest 27 = .ok (.if_icmp .eq 16, 3) := by decide +kernel
theorem dX8_weakest_30 : decode cX8_weakest 30 = .ok (.aload_n 0, 1) := by decide +kernel
theorem dX8_weakest_31 : decode cX8_weakest 31 = .ok (.iload_n 2, 1) := by decide +kernel
theorem dX8_weakest_32 : decode cX8_weakest 32 = .ok (.invokevirtual 244, 3) := by decide +kernel
theorem dX8_weakest_35 : decode cX8_weakest 35 = .ok (.aload_n 0, 1) := by decide +kernel
theorem dX8_weakest_36 : decode cX8_weakest 36 = .ok (.iload_n 1, 1) := by decide +kernel
theorem dX8_weakest_37 : decode cX8_weakest 37 = .ok (.invokevirtual 244, 3) := by decide +kernel
theorem dX8_weakest_40 : decode cX8_weakest 40 = .ok (.if_icmp .le 7, 3) := by decide +kernel
theorem dX8_weakest_43 : decode cX8_weakest 43 = .ok (.iload_n 2, 1) := by decide +kernel
theorem dX8_weakest_44 : decode cX8_weakest 44 = .ok (.goto 4, 3) := by decide +kernel
theorem dX8_weakest_47 : decode cX8_weakest 47 = .ok (.iload_n 1, 1) := by decide +kernel
theorem dX8_weakest_48 : decode cX8_weakest 48 = .ok (.istore_n 1, 1) := by decide +kernel
theorem dX8_weakest_49 : decode cX8_weakest 49 = .ok (.iinc 2 1, 3) := by decide +kernel
theorem dX8_weakest_52 : decode cX8_weakest 52 = .ok (.goto (-43), 3) := by decide +kernel
theorem dX8_weakest_55 : decode cX8_weakest 55 = .ok (.iload_n 1, 1) := by decide +kernel
theorem dX8_weakest_56 : decode cX8_weakest 56 = .ok (.ireturn, 1) := by decide +kernel
theorem dX8_whyNotRunning_0 : decode cX8_whyNotRunning 0 = .ok (.aload_n 0, 1) := by decide +kernel
theorem dX8_whyNotRunning_1 : decode cX8_whyNotRunning 1 = .ok (.aload_n 0, 1) := by decide +kernel
theorem dX8_whyNotRunning_2 : decode cX8_whyNotRunning 2 = .ok (.iload_n 1, 1) := by decide +kernel
theorem dX8_whyNotRunning_3 : decode cX8_whyNotRunning 3 = .ok (.invokevirtual 265, 3) := by decide +kernel
theorem dX8_whyNotRunning_6 : decode cX8_whyNotRunning 6 = .ok (.ifCond .eq 7, 3) := by decide +kernel
theorem dX8_whyNotRunning_9 : decode cX8_whyNotRunning 9 = .ok (.iconst 0, 1) := by decide +kernel
theorem dX8_whyNotRunning_10 : decode cX8_whyNotRunning 10 = .ok (.goto 4, 3) := by decide +kernel
theorem dX8_whyNotRunning_13 : decode cX8_whyNotRunning 13 = .ok (.iconst 1, 1) := by decide +kernel
theorem dX8_whyNotRunning_14 : decode cX8_whyNotRunning 14 = .ok (.putfield 55, 3) := by decide +kernel
theorem dX8_whyNotRunning_17 : decode cX8_whyNotRunning 17 = .ok (.aload_n 0, 1) := by decide +kernel
theorem dX8_whyNotRunning_18 : decode cX8_whyNotRunning 18 = .ok (.getfield 55, 3) := by decide +kernel
theorem dX8_whyNotRunning_21 : decode cX8_whyNotRunning 21 = .ok (.ifCond .gt 16, 3) := by decide +kernel
theorem dX8_whyNotRunning_24 : decode cX8_whyNotRunning 24 = .ok (.aload_n 0, 1) := by decide +kernel
theorem dX8_whyNotRunning_25 : decode cX8_whyNotRunning 25 = .ok (.getfield 23, 3) := by decide +kernel
theorem dX8_whyNotRunning_28 : decode cX8_whyNotRunning 28 = .ok (.iload_n 1, 1) := by decide +kernel
theorem dX8_whyNotRunning_29 : decode cX8_whyNotRunning 29 = .ok (.invokestatic 193, 3) := by decide +kernel
theorem dX8_whyNotRunning_32 : decode cX8_whyNotRunning 32 = .ok (.iaload, 1) := by decide +kernel
theorem dX8_whyNotRunning_33 : decode cX8_whyNotRunning 33 = .ok (.iconst 1, 1) := by decide +kernel
theorem dX8_whyNotRunning_34 : decode cX8_whyNotRunning 34 = .ok (.if_icmp .ne 5, 3) := by decide +kernel
theorem dX8_whyNotRunning_37 : decode cX8_whyNotRunning 37 = .ok (.iconst 0, 1) := by decide +kernel
theorem dX8_whyNotRunning_38 : decode cX8_whyNotRunning 38 = .ok (.ireturn, 1) := by decide +kernel
theorem dX8_whyNotRunning_39 : decode cX8_whyNotRunning 39 = .ok (.aload_n 0, 1) := by decide +kernel
theorem dX8_whyNotRunning_40 : decode cX8_whyNotRunning 40 = .ok (.iload_n 1, 1) := by decide +kernel
theorem dX8_whyNotRunning_41 : decode cX8_whyNotRunning 41 = .ok (.invokevirtual 224, 3) := by decide +kernel
theorem dX8_whyNotRunning_44 : decode cX8_whyNotRunning 44 = .ok (.iconst (-1), 1) := by decide +kernel
theorem dX8_whyNotRunning_45 : decode cX8_whyNotRunning 45 = .ok (.if_icmp .ne 26, 3) := by decide +kernel
theorem dX8_whyNotRunning_48 : decode cX8_whyNotRunning 48 = .ok (.aload_n 0, 1) := by decide +kernel
theorem dX8_whyNotRunning_49 : decode cX8_whyNotRunning 49 = .ok (.getfield 17, 3) := by decide +kernel
theorem dX8_whyNotRunning_52 : decode cX8_whyNotRunning 52 = .ok (.bipush 63, 2) := by decide +kernel
theorem dX8_whyNotRunning_54 : decode cX8_whyNotRunning 54 = .ok (.aload_n 0, 1) := by decide +kernel
theorem dX8_whyNotRunning_55 : decode cX8_whyNotRunning 55 = .ok (.iload_n 1, 1) := by decide +kernel
theorem dX8_whyNotRunning_56 : decode cX8_whyNotRunning 56 = .ok (.invokevirtual 212, 3) := by decide +kernel
theorem dX8_whyNotRunning_59 : decode cX8_whyNotRunning 59 = .ok (.iadd, 1) := by decide +kernel
theorem dX8_whyNotRunning_60 : decode cX8_whyNotRunning 60 = .ok (.iaload, 1) := by decide +kernel
theorem dX8_whyNotRunning_61 : decode cX8_whyNotRunning 61 = .ok (.iconst (-1), 1) := by decide +kernel
theorem dX8_whyNotRunning_62 : decode cX8_whyNotRunning 62 = .ok (.if_icmp .ne 7, 3) := by decide +kernel
theorem dX8_whyNotRunning_65 : decode cX8_whyNotRunning 65 = .ok (.iconst 1, 1) := by decide +kernel
theorem dX8_whyNotRunning_66 : decode cX8_whyNotRunning 66 = .ok (.goto 4, 3) := by decide +kernel
theorem dX8_whyNotRunning_69 : decode cX8_whyNotRunning 69 = .ok (.iconst 2, 1) := by decide +kernel
theorem dX8_whyNotRunning_70 : decode cX8_whyNotRunning 70 = .ok (.ireturn, 1) := by decide +kernel
theorem dX8_whyNotRunning_71 : decode cX8_whyNotRunning 71 = .ok (.aload_n 0, 1) := by decide +kernel
theorem dX8_whyNotRunning_72 : decode cX8_whyNotRunning 72 = .ok (.getfield 23, 3) := by decide +kernel
theorem dX8_whyNotRunning_75 : decode cX8_whyNotRunning 75 = .ok (.iload_n 1, 1) := by decide +kernel
theorem dX8_whyNotRunning_76 : decode cX8_whyNotRunning 76 = .ok (.invokestatic 193, 3) := by decide +kernel
theorem dX8_whyNotRunning_79 : decode cX8_whyNotRunning 79 = .ok (.iaload, 1) := by decide +kernel
theorem dX8_whyNotRunning_80 : decode cX8_whyNotRunning 80 = .ok (.ifCond .ne 7, 3) := by decide +kernel
theorem dX8_whyNotRunning_83 : decode cX8_whyNotRunning 83 = .ok (.iconst 3, 1) := by decide +kernel
theorem dX8_whyNotRunning_84 : decode cX8_whyNotRunning 84 = .ok (.goto 4, 3) := by decide +kernel
theorem dX8_whyNotRunning_87 : decode cX8_whyNotRunning 87 = .ok (.iconst 4, 1) := by decide +kernel
theorem dX8_whyNotRunning_88 : decode cX8_whyNotRunning 88 = .ok (.ireturn, 1) := by decide +kernel
theorem dX8_event_0 : decode cX8_event 0 = .ok (.aload_n 0, 1) := by decide +kernel
theorem dX8_event_1 : decode cX8_event 1 = .ok (.iload_n 2, 1) := by decide +kernel
theorem dX8_event_2 : decode cX8_event 2 = .ok (.iconst 0, 1) := by decide +kernel
theorem dX8_event_3 : decode cX8_event 3 = .ok (.iconst 2, 1) := by decide +kernel
theorem dX8_event_4 : decode cX8_event 4 = .ok (.invokestatic 82, 3) := by decide +kernel
theorem dX8_event_7 : decode cX8_event 7 = .ok (.ifCond .eq 7, 3) := by decide +kernel
theorem dX8_event_10 : decode cX8_event 10 = .ok (.iconst 0, 1) := by decide +kernel
theorem dX8_event_11 : decode cX8_event 11 = .ok (.goto 4, 3) := by decide +kernel
theorem dX8_event_14 : decode cX8_event 14 = .ok (.iconst 1, 1) := by decide +kernel
theorem dX8_event_15 : decode cX8_event 15 = .ok (.putfield 55, 3) := by decide +kernel
theorem dX8_event_18 : decode cX8_event 18 = .ok (.aload_n 0, 1) := by decide +kernel
theorem dX8_event_19 : decode cX8_event 19 = .ok (.getfield 55, 3) := by decide +kernel
theorem dX8_event_22 : decode cX8_event 22 = .ok (.ifCond .le 5, 3) := by decide +kernel
theorem dX8_event_25 : decode cX8_event 25 = .ok (.iconst 0, 1) := by decide +kernel
theorem dX8_event_26 : decode cX8_event 26 = .ok (.ireturn, 1) := by decide +kernel
theorem dX8_event_27 : decode cX8_event 27 = .ok (.aload_n 0, 1) := by decide +kernel
theorem dX8_event_28 : decode cX8_event 28 = .ok (.getfield 23, 3) := by decide +kernel
theorem dX8_event_31 : decode cX8_event 31 = .ok (.bipush 12, 2) := by decide +kernel
theorem dX8_event_33 : decode cX8_event 33 = .ok (.iaload, 1) := by decide +kernel
theorem dX8_event_34 : decode cX8_event 34 = .ok (.bipush 24, 2) := by decide +kernel
theorem dX8_event_36 : decode cX8_event 36 = .ok (.if_icmp .ge 13, 3) := by decide +kernel
theorem dX8_event_39 : decode cX8_event 39 = .ok (.aload_n 0, 1) := by decide +kernel
theorem dX8_event_40 : decode cX8_event 40 = .ok (.getfield 23, 3) := by decide +kernel
theorem dX8_event_43 : decode cX8_event 43 = .ok (.bipush 12, 2) := by decide +kernel
theorem dX8_event_45 : decode cX8_event 45 = .ok (.iaload, 1) := by decide +kernel
theorem dX8_event_46 : decode cX8_event 46 = .ok (.goto 5, 3) := by decide +kernel
theorem dX8_event_49 : decode cX8_event 49 = .ok (.bipush 24, 2) := by decide +kernel
theorem dX8_event_51 : decode cX8_event 51 = .ok (.istore_n 3, 1) := by decide +kernel
theorem dX8_event_52 : decode cX8_event 52 = .ok (.iload_n 1, 1) := by decide +kernel
theorem dX8_event_53 : decode cX8_event 53 = .ok (.iconst 0, 1) := by decide +kernel
theorem dX8_event_54 : decode cX8_event 54 = .ok (.iload_n 3, 1) := by decide +kernel
theorem dX8_event_55 : decode cX8_event 55 = .ok (.iconst 1, 1) := by decide +kernel
theorem dX8_event_56 : decode cX8_event 56 = .ok (.isub, 1) := by decide +kernel
theorem dX8_event_57 : decode cX8_event 57 = .ok (.invokestatic 82, 3) := by decide +kernel
theorem dX8_event_60 : decode cX8_event 60 = .ok (.ifCond .eq 33, 3) := by decide +kernel
theorem dX8_event_63 : decode cX8_event 63 = .ok (.aload_n 0, 1) := by decide +kernel
theorem dX8_event_64 : decode cX8_event 64 = .ok (.getfield 23, 3) := by decide +kernel
theorem dX8_event_67 : decode cX8_event 67 = .ok (.sipush 338, 3) := by decide +kernel
theorem dX8_event_70 : decode cX8_event 70 = .ok (.iconst 3, 1) := by decide +kernel
theorem dX8_event_71 : decode cX8_event 71 = .ok (.aload_n 0, 1) := by decide +kernel
theorem dX8_event_72 : decode cX8_event 72 = .ok (.getfield 23, 3) := by decide +kernel
theorem dX8_event_75 : decode cX8_event 75 = .ok (.bipush 12, 2) := by decide +kernel
theorem dX8_event_77 : decode cX8_event 77 = .ok (.iaload, 1) := by decide +kernel
theorem dX8_event_78 : decode cX8_event 78 = .ok (.iconst 1, 1) := by decide +kernel
theorem dX8_event_79 : decode cX8_event 79 = .ok (.isub, 1) := by decide +kernel
theorem dX8_event_80 : decode cX8_event 80 = .ok (.iload_n 1, 1) := by decide +kernel
theorem dX8_event_81 : decode cX8_event 81 = .ok (.isub, 1) := by decide +kernel
theorem dX8_event_82 : decode cX8_event 82 = .ok (.bipush 24, 2) := by decide +kernel
theorem dX8_event_84 : decode cX8_event 84 = .ok (.irem, 1) := by decide +kernel
theorem dX8_event_85 : decode cX8_event 85 = .ok (.imul, 1) := by decide +kernel
theorem dX8_event_86 : decode cX8_event 86 = .ok (.iadd, 1) := by decide +kernel
theorem dX8_event_87 : decode cX8_event 87 = .ok (.iload_n 2, 1) := by decide +kernel
theorem dX8_event_88 : decode cX8_event 88 = .ok (.iadd, 1) := by decide +kernel
theorem dX8_event_89 : decode cX8_event 89 = .ok (.iaload, 1) := by decide +kernel
theorem dX8_event_90 : decode cX8_event 90 = .ok (.goto 4, 3) := by decide +kernel
theorem dX8_event_93 : decode cX8_event 93 = .ok (.iconst (-1), 1) := by decide +kernel
theorem dX8_event_94 : decode cX8_event 94 = .ok (.ireturn, 1) := by decide +kernel
theorem dX8_account_0 : decode cX8_account 0 = .ok (.aload_n 0, 1) := by decide +kernel
theorem dX8_account_1 : decode cX8_account 1 = .ok (.iload_n 1, 1) := by decide +kernel
theorem dX8_account_2 : decode cX8_account 2 = .ok (.iconst 0, 1) := by decide +kernel
theorem dX8_account_3 : decode cX8_account 3 = .ok (.bipush 9, 2) := by decide +kernel
theorem dX8_account_5 : decode cX8_account 5 = .ok (.invokestatic 82, 3) := by decide +kernel
theorem dX8_account_8 : decode cX8_account 8 = .ok (.ifCond .eq 7, 3) := by decide +kernel
theorem dX8_account_11 : decode cX8_account 11 = .ok (.iconst 0, 1) := by decide +kernel
theorem dX8_account_12 : decode cX8_account 12 = .ok (.goto 4, 3) := by decide +kernel
theorem dX8_account_15 : decode cX8_account 15 = .ok (.iconst 1, 1) := by decide +kernel
theorem dX8_account_16 : decode cX8_account 16 = .ok (.putfield 55, 3) := by decide +kernel
theorem dX8_account_19 : decode cX8_account 19 = .ok (.aload_n 0, 1) := by decide +kernel
theorem dX8_account_20 : decode cX8_account 20 = .ok (.getfield 55, 3) := by decide +kernel
theorem dX8_account_23 : decode cX8_account 23 = .ok (.ifCond .ne 14, 3) := by decide +kernel
theorem dX8_account_26 : decode cX8_account 26 = .ok (.aload_n 0, 1) := by decide +kernel
theorem dX8_account_27 : decode cX8_account 27 = .ok (.getfield 23, 3) := by decide +kernel
theorem dX8_account_30 : decode cX8_account 30 = .ok (.iconst 2, 1) := by decide +kernel
theorem dX8_account_31 : decode cX8_account 31 = .ok (.iload_n 1, 1) := by decide +kernel
theorem dX8_account_32 : decode cX8_account 32 = .ok (.iadd, 1) := by decide +kernel
theorem dX8_account_33 : decode cX8_account 33 = .ok (.iaload, 1) := by decide +kernel
theorem dX8_account_34 : decode cX8_account 34 = .ok (.goto 4, 3) := by decide +kernel
theorem dX8_account_37 : decode cX8_account 37 = .ok (.iconst 0, 1) := by decide +kernel
theorem dX8_account_38 : decode cX8_account 38 = .ok (.ireturn, 1) := by decide +kernel
theorem dX8_rightShare_0 : decode cX8_rightShare 0 = .ok (.aload_n 0, 1) := by decide +kernel
theorem dX8_rightShare_1 : decode cX8_rightShare 1 = .ok (.iconst 0, 1) := by decide +kernel
theorem dX8_rightShare_2 : decode cX8_rightShare 2 = .ok (.putfield 55, 3) := by decide +kernel
theorem dX8_rightShare_5 : decode cX8_rightShare 5 = .ok (.aload_n 0, 1) := by decide +kernel
theorem dX8_rightShare_6 : decode cX8_rightShare 6 = .ok (.getfield 23, 3) := by decide +kernel
theorem dX8_rightShare_9 : decode cX8_rightShare 9 = .ok (.iconst 4, 1) := by decide +kernel
theorem dX8_rightShare_10 : decode cX8_rightShare 10 = .ok (.iaload, 1) := by decide +kernel
theorem dX8_rightShare_11 : decode cX8_rightShare 11 = .ok (.aload_n 0, 1) := by decide +kernel
theorem dX8_rightShare_12 : decode cX8_rightShare 12 = .ok (.getfield 23, 3) := by decide +kernel
theorem dX8_rightShare_15 : decode cX8_rightShare 15 = .ok (.iconst 3, 1) := by decide +kernel
theorem dX8_rightShare_16 : decode cX8_rightShare 16 = .ok (.iaload, 1) := by decide +kernel
theorem dX8_rightShare_17 : decode cX8_rightShare 17 = .ok (.iadd, 1) := by decide +kernel
theorem dX8_rightShare_18 : decode cX8_rightShare 18 = .ok (.istore_n 1, 1) := by decide +kernel
theorem dX8_rightShare_19 : decode cX8_rightShare 19 = .ok (.iload_n 1, 1) := by decide +kernel
theorem dX8_rightShare_20 : decode cX8_rightShare 20 = .ok (.ifCond .ne 7, 3) := by decide +kernel
theorem dX8_rightShare_23 : decode cX8_rightShare 23 = .ok (.dconst 0, 1) := by decide +kernel
theorem dX8_rightShare_24 : decode cX8_rightShare 24 = .ok (.goto 13, 3) := by decide +kernel
theorem dX8_rightShare_27 : decode cX8_rightShare 27 = .ok (.aload_n 0, 1) := by decide +kernel
theorem dX8_rightShare_28 : decode cX8_rightShare 28 = .ok (.getfield 23, 3) := by decide +kernel
theorem dX8_rightShare_31 : decode cX8_rightShare 31 = .ok (.iconst 4, 1) := by decide +kernel
theorem dX8_rightShare_32 : decode cX8_rightShare 32 = .ok (.iaload, 1) := by decide +kernel
theorem dX8_rightShare_33 : decode cX8_rightShare 33 = .ok (.i2d, 1) := by decide +kernel
theorem dX8_rightShare_34 : decode cX8_rightShare 34 = .ok (.iload_n 1, 1) := by decide +kernel
theorem dX8_rightShare_35 : decode cX8_rightShare 35 = .ok (.i2d, 1) := by decide +kernel
theorem dX8_rightShare_36 : decode cX8_rightShare 36 = .ok (.ddiv, 1) := by decide +kernel
theorem dX8_rightShare_37 : decode cX8_rightShare 37 = .ok (.dreturn, 1) := by decide +kernel
theorem dX8_flows_0 : decode cX8_flows 0 = .ok (.iload_n 1, 1) := by decide +kernel
theorem dX8_flows_1 : decode cX8_flows 1 = .ok (.invokestatic 193, 3) := by decide +kernel
theorem dX8_flows_4 : decode cX8_flows 4 = .ok (.iconst 2, 1) := by decide +kernel
theorem dX8_flows_5 : decode cX8_flows 5 = .ok (.iadd, 1) := by decide +kernel
theorem dX8_flows_6 : decode cX8_flows 6 = .ok (.istore_n 2, 1) := by decide +kernel
theorem dX8_flows_7 : decode cX8_flows 7 = .ok (.aload_n 0, 1) := by decide +kernel
theorem dX8_flows_8 : decode cX8_flows 8 = .ok (.getfield 23, 3) := by decide +kernel
theorem dX8_flows_11 : decode cX8_flows 11 = .ok (.iload_n 1, 1) := by decide +kernel
theorem dX8_flows_12 : decode cX8_flows 12 = .ok (.invokestatic 193, 3) := by decide +kernel
theorem dX8_flows_15 : decode cX8_flows 15 = .ok (.iaload, 1) := by decide +kernel
theorem dX8_flows_16 : decode cX8_flows 16 = .ok (.iconst 1, 1) := by decide +kernel
theorem dX8_flows_17 : decode cX8_flows 17 = .ok (.if_icmp .ne 49, 3) := by decide +kernel
theorem dX8_flows_20 : decode cX8_flows 20 = .ok (.aload_n 0, 1) := by decide +kernel
theorem dX8_flows_21 : decode cX8_flows 21 = .ok (.getfield 23, 3) := by decide +kernel
theorem dX8_flows_24 : decode cX8_flows 24 = .ok (.iload_n 2, 1) := by decide +kernel
theorem dX8_flows_25 : decode cX8_flows 25 = .ok (.iaload, 1) := by decide +kernel
theorem dX8_flows_26 : decode cX8_flows 26 = .ok (.aload_n 0, 1) := by decide +kernel
theorem dX8_flows_27 : decode cX8_flows 27 = .ok (.iload_n 1, 1) := by decide +kernel
theorem dX8_flows_28 : decode cX8_flows 28 = .ok (.invokevirtual 218, 3) := by decide +kernel
theorem dX8_flows_31 : decode cX8_flows 31 = .ok (.iadd, 1) := by decide +kernel
theorem dX8_flows_32 : decode cX8_flows 32 = .ok (.istore_n 3, 1) := by decide +kernel
theorem dX8_flows_33 : decode cX8_flows 33 = .ok (.aload_n 0, 1) := by decide +kernel
theorem dX8_flows_34 : decode cX8_flows 34 = .ok (.getfield 26, 3) := by decide +kernel
theorem dX8_flows_37 : decode cX8_flows 37 = .ok (.iload_n 1, 1) := by decide +kernel
theorem dX8_flows_38 : decode cX8_flows 38 = .ok (.dup2, 1) := by decide +kernel
theorem dX8_flows_39 : decode cX8_flows 39 = .ok (.laload, 1) := by decide +kernel
theorem dX8_flows_40 : decode cX8_flows 40 = .ok (.iload_n 3, 1) := by decide +kernel
theorem dX8_flows_41 : decode cX8_flows 41 = .ok (.aload_n 0, 1) := by decide +kernel
theorem dX8_flows_42 : decode cX8_flows 42 = .ok (.iload_n 1, 1) := by decide +kernel
theorem dX8_flows_43 : decode cX8_flows 43 = .ok (.invokevirtual 268, 3) := by decide +kernel
theorem dX8_flows_46 : decode cX8_flows 46 = .ok (.idiv, 1) := by decide +kernel
theorem dX8_flows_47 : decode cX8_flows 47 = .ok (.i2l, 1) := by decide +kernel
theorem dX8_flows_48 : decode cX8_flows 48 = .ok (.ladd, 1) := by decide +kernel
theorem dX8_flows_49 : decode cX8_flows 49 = .ok (.lastore, 1) := by decide +kernel
theorem dX8_flows_50 : decode cX8_flows 50 = .ok (.aload_n 0, 1) := by decide +kernel
theorem dX8_flows_51 : decode cX8_flows 51 = .ok (.getfield 23, 3) := by decide +kernel
theorem dX8_flows_54 : decode cX8_flows 54 = .ok (.iload_n 2, 1) := by decide +kernel
theorem dX8_flows_55 : decode cX8_flows 55 = .ok (.iload_n 3, 1) := by decide +kernel
theorem dX8_flows_56 : decode cX8_flows 56 = .ok (.aload_n 0, 1) := by decide +kernel
theorem dX8_flows_57 : decode cX8_flows 57 = .ok (.iload_n 1, 1) := by decide +kernel
theorem dX8_flows_58 : decode cX8_flows 58 = .ok (.invokevirtual 268, 3) := by decide +kernel
theorem dX8_flows_61 : decode cX8_flows 61 = .ok (.irem, 1) := by decide +kernel
theorem dX8_flows_62 : decode cX8_flows 62 = .ok (.iastore, 1) := by decide +kernel
theorem dX8_flows_63 : decode cX8_flows 63 = .ok (.goto 88, 3) := by decide +kernel
theorem dX8_flows_66 : decode cX8_flows 66 = .ok (.aload_n 0, 1) := by decide +kernel
theorem dX8_flows_67 : decode cX8_flows 67 = .ok (.getfield 23, 3) := by decide +kernel
theorem dX8_flows_70 : decode cX8_flows 70 = .ok (.iload_n 1, 1) := by decide +kernel
theorem dX8_flows_71 : decode cX8_flows 71 = .ok (.invokestatic 193, 3) := by decide +kernel
theorem dX8_flows_74 : decode cX8_flows 74 = .ok (.iaload, 1) := by decide +kernel
theorem dX8_flows_75 : decode cX8_flows 75 = .ok (.iconst 2, 1) := by decide +kernel
theorem dX8_flows_76 : decode cX8_flows 76 = .ok (.if_icmp .ne 75, 3) := by decide +kernel
theorem dX8_flows_79 : decode cX8_flows 79 = .ok (.aload_n 0, 1) := by decide +kernel
theorem dX8_flows_80 : decode cX8_flows 80 = .ok (.iload_n 1, 1) := by decide +kernel
theorem dX8_flows_81 : decode cX8_flows 81 = .ok (.invokevirtual 268, 3) := by decide +kernel
theorem dX8_flows_84 : decode cX8_flows 84 = .ok (.aload_n 0, 1) := by decide +kernel
theorem dX8_flows_85 : decode cX8_flows 85 = .ok (.getfield 23, 3) := by decide +kernel
theorem dX8_flows_88 : decode cX8_flows 88 = .ok (.iload_n 2, 1) := by decide +kernel
theorem dX8_flows_89 : decode cX8_flows 89 = .ok (.iaload, 1) := by decide +kernel
theorem dX8_flows_90 : decode cX8_flows 90 = .ok (.isub, 1) := by decide +kernel
theorem dX8_flows_91 : decode cX8_flows 91 = .ok (.istore_n 3, 1) := by decide +kernel
theorem dX8_flows_92 : decode cX8_flows 92 = .ok (.aload_n 0, 1) := by decide +kernel
theorem dX8_flows_93 : decode cX8_flows 93 = .ok (.getfield 23, 3) := by decide +kernel
theorem dX8_flows_96 : decode cX8_flows 96 = .ok (.iload_n 2, 1) := by decide +kernel
theorem dX8_flows_97 : decode cX8_flows 97 = .ok (.dup2, 1) := by decide +kernel
theorem dX8_flows_98 : decode cX8_flows 98 = .ok (.iaload, 1) := by decide +kernel
theorem dX8_flows_99 : decode cX8_flows 99 = .ok (.iload_n 3, 1) := by decide +kernel
theorem dX8_flows_100 : decode cX8_flows 100 = .ok (.aload_n 0, 1) := by decide +kernel
theorem dX8_flows_101 : decode cX8_flows 101 = .ok (.iload_n 1, 1) := by decide +kernel
theorem dX8_flows_102 : decode cX8_flows 102 = .ok (.invokevirtual 218, 3) := by decide +kernel
theorem dX8_flows_105 : decode cX8_flows 105 = .ok (.if_icmp .ge 7, 3) := by decide +kernel
theorem dX8_flows_108 : decode cX8_flows 108 = .ok (.iload_n 3, 1) := by decide +kernel
theorem dX8_flows_109 : decode cX8_flows 109 = .ok (.goto 8, 3) := by decide +kernel
theorem dX8_flows_112 : decode cX8_flows 112 = .ok (.aload_n 0, 1) := by decide +kernel
theorem dX8_flows_113 : decode cX8_flows 113 = .ok (.iload_n 1, 1) := by decide +kernel
theorem dX8_flows_114 : decode cX8_flows 114 = .ok (.invokevirtual 218, 3) := by decide +kernel
theorem dX8_flows_117 : decode cX8_flows 117 = .ok (.iadd, 1) := by decide +kernel
theorem dX8_flows_118 : decode cX8_flows 118 = .ok (.iastore, 1) := by decide +kernel
theorem dX8_flows_119 : decode cX8_flows 119 = .ok (.aload_n 0, 1) := by decide +kernel
theorem dX8_flows_120 : decode cX8_flows 120 = .ok (.getfield 23, 3) := by decide +kernel
theorem dX8_flows_123 : decode cX8_flows 123 = .ok (.iload_n 2, 1) := by decide +kernel
theorem dX8_flows_124 : decode cX8_flows 124 = .ok (.iaload, 1) := by decide +kernel
theorem dX8_flows_125 : decode cX8_flows 125 = .ok (.aload_n 0, 1) := by decide +kernel
theorem dX8_flows_126 : decode cX8_flows 126 = .ok (.iload_n 1, 1) := by decide +kernel
theorem dX8_flows_127 : decode cX8_flows 127 = .ok (.invokevirtual 268, 3) := by decide +kernel
theorem dX8_flows_130 : decode cX8_flows 130 = .ok (.if_icmp .ge 4, 3) := by decide +kernel
theorem dX8_flows_133 : decode cX8_flows 133 = .ok (.return_, 1) := by decide +kernel
theorem dX8_flows_134 : decode cX8_flows 134 = .ok (.aload_n 0, 1) := by decide +kernel
theorem dX8_flows_135 : decode cX8_flows 135 = .ok (.getfield 26, 3) := by decide +kernel
theorem dX8_flows_138 : decode cX8_flows 138 = .ok (.iload_n 1, 1) := by decide +kernel
theorem dX8_flows_139 : decode cX8_flows 139 = .ok (.dup2, 1) := by decide +kernel
theorem dX8_flows_140 : decode cX8_flows 140 = .ok (.laload, 1) := by decide +kernel
theorem dX8_flows_141 : decode cX8_flows 141 = .ok (.lconst 1, 1) := by decide +kernel
theorem dX8_flows_142 : decode cX8_flows 142 = .ok (.ladd, 1) := by decide +kernel
theorem dX8_flows_143 : decode cX8_flows 143 = .ok (.lastore, 1) := by decide +kernel
theorem dX8_flows_144 : decode cX8_flows 144 = .ok (.aload_n 0, 1) := by decide +kernel
theorem dX8_flows_145 : decode cX8_flows 145 = .ok (.getfield 23, 3) := by decide +kernel
theorem dX8_flows_148 : decode cX8_flows 148 = .ok (.iload_n 2, 1) := by decide +kernel
theorem dX8_flows_149 : decode cX8_flows 149 = .ok (.iconst 0, 1) := by decide +kernel
theorem dX8_flows_150 : decode cX8_flows 150 = .ok (.iastore, 1) := by decide +kernel
theorem dX8_flows_151 : decode cX8_flows 151 = .ok (.return_, 1) := by decide +kernel
theorem dX8_calms_0 : decode cX8_calms 0 = .ok (.aload_n 0, 1) := by decide +kernel
theorem dX8_calms_1 : decode cX8_calms 1 = .ok (.getfield 23, 3) := by decide +kernel
theorem dX8_calms_4 : decode cX8_calms 4 = .ok (.iload_n 1, 1) := by decide +kernel
theorem dX8_calms_5 : decode cX8_calms 5 = .ok (.invokestatic 190, 3) := by decide +kernel
theorem dX8_calms_8 : decode cX8_calms 8 = .ok (.iconst 1, 1) := by decide +kernel
theorem dX8_calms_9 : decode cX8_calms 9 = .ok (.iadd, 1) := by decide +kernel
theorem dX8_calms_10 : decode cX8_calms 10 = .ok (.iconst 0, 1) := by decide +kernel
theorem dX8_calms_11 : decode cX8_calms 11 = .ok (.iastore, 1) := by decide +kernel
theorem dX8_calms_12 : decode cX8_calms 12 = .ok (.aload_n 0, 1) := by decide +kernel
theorem dX8_calms_13 : decode cX8_calms 13 = .ok (.getfield 23, 3) := by decide +kernel
theorem dX8_calms_16 : decode cX8_calms 16 = .ok (.iload_n 1, 1) := by decide +kernel
theorem dX8_calms_17 : decode cX8_calms 17 = .ok (.invokestatic 190, 3) := by decide +kernel
theorem dX8_calms_20 : decode cX8_calms 20 = .ok (.iconst 3, 1) := by decide +kernel
theorem dX8_calms_21 : decode cX8_calms 21 = .ok (.iadd, 1) := by decide +kernel
theorem dX8_calms_22 : decode cX8_calms 22 = .ok (.iconst 0, 1) := by decide +kernel
theorem dX8_calms_23 : decode cX8_calms 23 = .ok (.iastore, 1) := by decide +kernel
theorem dX8_calms_24 : decode cX8_calms 24 = .ok (.aload_n 0, 1) := by decide +kernel
theorem dX8_calms_25 : decode cX8_calms 25 = .ok (.iconst 1, 1) := by decide +kernel
theorem dX8_calms_26 : decode cX8_calms 26 = .ok (.iload_n 1, 1) := by decide +kernel
theorem dX8_calms_27 : decode cX8_calms 27 = .ok (.invokevirtual 234, 3) := by decide +kernel
theorem dX8_calms_30 : decode cX8_calms 30 = .ok (.return_, 1) := by decide +kernel
theorem dX8_isOver_0 : decode cX8_isOver 0 = .ok (.iload_n 1, 1) := by decide +kernel
theorem dX8_isOver_1 : decode cX8_isOver 1 = .ok (.invokestatic 190, 3) := by decide +kernel
theorem dX8_isOver_4 : decode cX8_isOver 4 = .ok (.istore_n 2, 1) := by decide +kernel
theorem dX8_isOver_5 : decode cX8_isOver 5 = .ok (.aload_n 0, 1) := by decide +kernel
theorem dX8_isOver_6 : decode cX8_isOver 6 = .ok (.getfield 23, 3) := by decide +kernel
theorem dX8_isOver_9 : decode cX8_isOver 9 = .ok (.iload_n 2, 1) := by decide +kernel
theorem dX8_isOver_10 : decode cX8_isOver 10 = .ok (.iconst 1, 1) := by decide +kernel
theorem dX8_isOver_11 : decode cX8_isOver 11 = .ok (.iadd, 1) := by decide +kernel
theorem dX8_isOver_12 : decode cX8_isOver 12 = .ok (.iaload, 1) := by decide +kernel
theorem dX8_isOver_13 : decode cX8_isOver 13 = .ok (.ifCond .eq 28, 3) := by decide +kernel
theorem dX8_isOver_16 : decode cX8_isOver 16 = .ok (.aload_n 0, 1) := by decide +kernel
theorem dX8_isOver_17 : decode cX8_isOver 17 = .ok (.getfield 23, 3) := by decide +kernel
theorem dX8_isOver_20 : decode cX8_isOver 20 = .ok (.iconst 0, 1) := by decide +kernel
theorem dX8_isOver_21 : decode cX8_isOver 21 = .ok (.iaload, 1) := by decide +kernel
theorem dX8_isOver_22 : decode cX8_isOver 22 = .ok (.aload_n 0, 1) := by decide +kernel
theorem dX8_isOver_23 : decode cX8_isOver 23 = .ok (.getfield 23, 3) := by decide +kernel
theorem dX8_isOver_26 : decode cX8_isOver 26 = .ok (.iload_n 2, 1) := by decide +kernel
theorem dX8_isOver_27 : decode cX8_isOver 27 = .ok (.iconst 2, 1) := by decide +kernel
theorem dX8_isOver_28 : decode cX8_isOver 28 = .ok (.iadd, 1) := by decide +kernel
theorem dX8_isOver_29 : decode cX8_isOver 29 = .ok (.iaload, 1) := by decide +kernel
theorem dX8_isOver_30 : decode cX8_isOver 30 = .ok (.isub, 1) := by decide +kernel
theorem dX8_isOver_31 : decode cX8_isOver 31 = .ok (.aload_n 0, 1) := by decide +kernel
theorem dX8_isOver_32 : decode cX8_isOver 32 = .ok (.getfield 17, 3) := by decide +kernel
theorem dX8_isOver_35 : decode cX8_isOver 35 = .ok (.bipush 6, 2) := by decide +kernel
theorem dX8_isOver_37 : decode cX8_isOver 37 = .ok (.iaload, 1) := by decide +kernel
theorem dX8_isOver_38 : decode cX8_isOver 38 = .ok (.if_icmp .ge 5, 3) := by decide +kernel
theorem dX8_isOver_41 : decode cX8_isOver 41 = .ok (.iconst 0, 1) := by decide +kernel
theorem dX8_isOver_42 : decode cX8_isOver 42 = .ok (.ireturn, 1) := by decide +kernel
theorem dX8_isOver_43 : decode cX8_isOver 43 = .ok (.aload_n 0, 1) := by decide +kernel
theorem dX8_isOver_44 : decode cX8_isOver 44 = .ok (.getfield 23, 3) := by decide +kernel
theorem dX8_isOver_47 : decode cX8_isOver 47 = .ok (.iload_n 2, 1) := by decide +kernel
theorem dX8_isOver_48 : decode cX8_isOver 48 = .ok (.iconst 3, 1) := by decide +kernel
theorem dX8_isOver_49 : decode cX8_isOver 49 = .ok (.iadd, 1) := by decide +kernel
theorem dX8_isOver_50 : decode cX8_isOver 50 = .ok (.iaload, 1) := by decide +kernel
theorem dX8_isOver_51 : decode cX8_isOver 51 = .ok (.ifCond .eq 41, 3) := by decide +kernel
theorem dX8_isOver_54 : decode cX8_isOver 54 = .ok (.aload_n 0, 1) := by decide +kernel
theorem dX8_isOver_55 : decode cX8_isOver 55 = .ok (.getfield 23, 3) := by decide +kernel
theorem dX8_isOver_58 : decode cX8_isOver 58 = .ok (.iconst 0, 1) := by decide +kernel
theorem dX8_isOver_59 : decode cX8_isOver 59 = .ok (.iaload, 1) := by decide +kernel
theorem dX8_isOver_60 : decode cX8_isOver 60 = .ok (.aload_n 0, 1) := by decide +kernel
theorem dX8_isOver_61 : decode cX8_isOver 61 = .ok (.getfield 23, 3) := by decide +kernel
theorem dX8_isOver_64 : decode cX8_isOver 64 = .ok (.iload_n 2, 1) := by decide +kernel
theorem dX8_isOver_65 : decode cX8_isOver 65 = .ok (.iconst 4, 1) := by decide +kernel
theorem dX8_isOver_66 : decode cX8_isOver 66 = .ok (.iadd, 1) := by decide +kernel
theorem dX8_isOver_67 : decode cX8_isOver 67 = .ok (.iconst 2, 1) := by decide +kernel
theorem dX8_isOver_68 : decode cX8_isOver 68 = .ok (.aload_n 0, 1) := by decide +kernel
theorem dX8_isOver_69 : decode cX8_isOver 69 = .ok (.getfield 23, 3) := by decide +kernel
theorem dX8_isOver_72 : decode cX8_isOver 72 = .ok (.iload_n 2, 1) := by decide +kernel
theorem dX8_isOver_73 : decode cX8_isOver 73 = .ok (.iconst 3, 1) := by decide +kernel
theorem dX8_isOver_74 : decode cX8_isOver 74 = .ok (.iadd, 1) := by decide +kernel
theorem dX8_isOver_75 : decode cX8_isOver 75 = .ok (.iaload, 1) := by decide +kernel
theorem dX8_isOver_76 : decode cX8_isOver 76 = .ok (.imul, 1) := by decide +kernel
theorem dX8_isOver_77 : decode cX8_isOver 77 = .ok (.iadd, 1) := by decide +kernel
theorem dX8_isOver_78 : decode cX8_isOver 78 = .ok (.iconst 1, 1) := by decide +kernel
theorem dX8_isOver_79 : decode cX8_isOver 79 = .ok (.isub, 1) := by decide +kernel
theorem dX8_isOver_80 : decode cX8_isOver 80 = .ok (.iaload, 1) := by decide +kernel
theorem dX8_isOver_81 : decode cX8_isOver 81 = .ok (.isub, 1) := by decide +kernel
theorem dX8_isOver_82 : decode cX8_isOver 82 = .ok (.aload_n 0, 1) := by decide +kernel
theorem dX8_isOver_83 : decode cX8_isOver 83 = .ok (.getfield 17, 3) := by decide +kernel
theorem dX8_isOver_86 : decode cX8_isOver 86 = .ok (.bipush 6, 2) := by decide +kernel
theorem dX8_isOver_88 : decode cX8_isOver 88 = .ok (.iaload, 1) := by decide +kernel
theorem dX8_isOver_89 : decode cX8_isOver 89 = .ok (.if_icmp .lt 7, 3) := by decide +kernel
theorem dX8_isOver_92 : decode cX8_isOver 92 = .ok (.iconst 1, 1) := by decide +kernel
theorem dX8_isOver_93 : decode cX8_isOver 93 = .ok (.goto 4, 3) := by decide +kernel
theorem dX8_isOver_96 : decode cX8_isOver 96 = .ok (.iconst 0, 1) := by decide +kernel
theorem dX8_isOver_97 : decode cX8_isOver 97 = .ok (.ireturn, 1) := by decide +kernel
theorem dX8_frame_0 : decode cX8_frame 0 = .ok (.aload_n 0, 1) := by decide +kernel
theorem dX8_frame_1 : decode cX8_frame 1 = .ok (.getfield 23, 3) := by decide +kernel
theorem dX8_frame_4 : decode cX8_frame 4 = .ok (.iconst 0, 1) := by decide +kernel
theorem dX8_frame_5 : decode cX8_frame 5 = .ok (.dup2, 1) := by decide +kernel
theorem dX8_frame_6 : decode cX8_frame 6 = .ok (.iaload, 1) := by decide +kernel
theorem dX8_frame_7 : decode cX8_frame 7 = .ok (.iconst 1, 1) := by decide +kernel
theorem dX8_frame_8 : decode cX8_frame 8 = .ok (.iadd, 1) := by decide +kernel
theorem dX8_frame_9 : decode cX8_frame 9 = .ok (.iastore, 1) := by decide +kernel
theorem dX8_frame_10 : decode cX8_frame 10 = .ok (.iconst 0, 1) := by decide +kernel
theorem dX8_frame_11 : decode cX8_frame 11 = .ok (.istore_n 1, 1) := by decide +kernel
theorem dX8_frame_12 : decode cX8_frame 12 = .ok (.iload_n 1, 1) := by decide +kernel
theorem dX8_frame_13 : decode cX8_frame 13 = .ok (.aload_n 0, 1) := by decide +kernel
theorem dX8_frame_14 : decode cX8_frame 14 = .ok (.invokevirtual 184, 3) := by decide +kernel
theorem dX8_frame_17 : decode cX8_frame 17 = .ok (.if_icmp .ge 14, 3) := by decide +kernel
theorem dX8_frame_20 : decode cX8_frame 20 = .ok (.aload_n 0, 1) := by decide +kernel
theorem dX8_frame_21 : decode cX8_frame 21 = .ok (.iload_n 1, 1) := by decide +kernel
theorem dX8_frame_22 : decode cX8_frame 22 = .ok (.invokevirtual 280, 3) := by decide +kernel
theorem dX8_frame_25 : decode cX8_frame 25 = .ok (.iinc 1 1, 3) := by decide +kernel
theorem dX8_frame_28 : decode cX8_frame 28 = .ok (.goto (-16), 3) := by decide +kernel
theorem dX8_frame_31 : decode cX8_frame 31 = .ok (.iconst 0, 1) := by decide +kernel
theorem dX8_frame_32 : decode cX8_frame 32 = .ok (.istore_n 1, 1) := by decide +kernel
theorem dX8_frame_33 : decode cX8_frame 33 = .ok (.iload_n 1, 1) := by decide +kernel
theorem dX8_frame_34 : decode cX8_frame 34 = .ok (.aload_n 0, 1) := by decide +kernel
theorem dX8_frame_35 : decode cX8_frame 35 = .ok (.invokevirtual 187, 3) := by decide +kernel
theorem dX8_frame_38 : decode cX8_frame 38 = .ok (.if_icmp .ge 22, 3) := by decide +kernel
theorem dX8_frame_41 : decode cX8_frame 41 = .ok (.aload_n 0, 1) := by decide +kernel
theorem dX8_frame_42 : decode cX8_frame 42 = .ok (.iload_n 1, 1) := by decide +kernel
theorem dX8_frame_43 : decode cX8_frame 43 = .ok (.invokevirtual 283, 3) := by decide +kernel
theorem dX8_frame_46 : decode cX8_frame 46 = .ok (.ifCond .eq 8, 3) := by decide +kernel
theorem dX8_frame_49 : decode cX8_frame 49 = .ok (.aload_n 0, 1) := by decide +kernel
theorem dX8_frame_50 : decode cX8_frame 50 = .ok (.iload_n 1, 1) := by decide +kernel
theorem dX8_frame_51 : decode cX8_frame 51 = .ok (.invokevirtual 286, 3) := by decide +kernel
theorem dX8_frame_54 : decode cX8_frame 54 = .ok (.iinc 1 1, 3) := by decide +kernel
theorem dX8_frame_57 : decode cX8_frame 57 = .ok (.goto (-24), 3) := by decide +kernel
theorem dX8_frame_60 : decode cX8_frame 60 = .ok (.aload_n 0, 1) := by decide +kernel
theorem dX8_frame_61 : decode cX8_frame 61 = .ok (.invokevirtual 199, 3) := by decide +kernel
theorem dX8_frame_64 : decode cX8_frame 64 = .ok (.return_, 1) := by decide +kernel
theorem dX8_frames_0 : decode cX8_frames 0 = .ok (.aload_n 0, 1) := by decide +kernel
theorem dX8_frames_1 : decode cX8_frames 1 = .ok (.iload_n 1, 1) := by decide +kernel
theorem dX8_frames_2 : decode cX8_frames 2 = .ok (.iconst 1, 1) := by decide +kernel
theorem dX8_frames_3 : decode cX8_frames 3 = .ok (.sipush 200, 3) := by decide +kernel
theorem dX8_frames_6 : decode cX8_frames 6 = .ok (.invokestatic 82, 3) := by decide +kernel
theorem dX8_frames_9 : decode cX8_frames 9 = .ok (.ifCond .eq 7, 3) := by decide +kernel
theorem dX8_frames_12 : decode cX8_frames 12 = .ok (.iconst 0, 1) := by decide +kernel
theorem dX8_frames_13 : decode cX8_frames 13 = .ok (.goto 4, 3) := by decide +kernel
theorem dX8_frames_16 : decode cX8_frames 16 = .ok (.iconst 1, 1) := by decide +kernel
theorem dX8_frames_17 : decode cX8_frames 17 = .ok (.putfield 55, 3) := by decide +kernel
theorem dX8_frames_20 : decode cX8_frames 20 = .ok (.aload_n 0, 1) := by decide +kernel
theorem dX8_frames_21 : decode cX8_frames 21 = .ok (.getfield 55, 3) := by decide +kernel
theorem dX8_frames_24 : decode cX8_frames 24 = .ok (.ifCond .le 5, 3) := by decide +kernel
theorem dX8_frames_27 : decode cX8_frames 27 = .ok (.iconst 0, 1) := by decide +kernel
theorem dX8_frames_28 : decode cX8_frames 28 = .ok (.ireturn, 1) := by decide +kernel
theorem dX8_frames_29 : decode cX8_frames 29 = .ok (.aload_n 0, 1) := by decide +kernel
theorem dX8_frames_30 : decode cX8_frames 30 = .ok (.invokevirtual 289, 3) := by decide +kernel
theorem dX8_frames_33 : decode cX8_frames 33 = .ok (.iconst 0, 1) := by decide +kernel
theorem dX8_frames_34 : decode cX8_frames 34 = .ok (.istore_n 2, 1) := by decide +kernel
theorem dX8_frames_35 : decode cX8_frames 35 = .ok (.iload_n 2, 1) := by decide +kernel
theorem dX8_frames_36 : decode cX8_frames 36 = .ok (.iload_n 1, 1) := by decide +kernel
theorem dX8_frames_37 : decode cX8_frames 37 = .ok (.if_icmp .ge 13, 3) := by decide +kernel
theorem dX8_frames_40 : decode cX8_frames 40 = .ok (.aload_n 0, 1) := by decide +kernel
theorem dX8_frames_41 : decode cX8_frames 41 = .ok (.invokevirtual 292, 3) := by decide +kernel
theorem dX8_frames_44 : decode cX8_frames 44 = .ok (.iinc 2 1, 3) := by decide +kernel
theorem dX8_frames_47 : decode cX8_frames 47 = .ok (.goto (-12), 3) := by decide +kernel
theorem dX8_frames_50 : decode cX8_frames 50 = .ok (.aload_n 0, 1) := by decide +kernel
theorem dX8_frames_51 : decode cX8_frames 51 = .ok (.invokevirtual 227, 3) := by decide +kernel
theorem dX8_frames_54 : decode cX8_frames 54 = .ok (.ireturn, 1) := by decide +kernel
theorem dX8_alarms_0 : decode cX8_alarms 0 = .ok (.aload_n 0, 1) := by decide +kernel
theorem dX8_alarms_1 : decode cX8_alarms 1 = .ok (.getfield 23, 3) := by decide +kernel
theorem dX8_alarms_4 : decode cX8_alarms 4 = .ok (.iload_n 1, 1) := by decide +kernel
theorem dX8_alarms_5 : decode cX8_alarms 5 = .ok (.invokestatic 190, 3) := by decide +kernel
theorem dX8_alarms_8 : decode cX8_alarms 8 = .ok (.iconst 1, 1) := by decide +kernel
theorem dX8_alarms_9 : decode cX8_alarms 9 = .ok (.iadd, 1) := by decide +kernel
theorem dX8_alarms_10 : decode cX8_alarms 10 = .ok (.iconst 1, 1) := by decide +kernel
theorem dX8_alarms_11 : decode cX8_alarms 11 = .ok (.iastore, 1) := by decide +kernel
theorem dX8_alarms_12 : decode cX8_alarms 12 = .ok (.aload_n 0, 1) := by decide +kernel
theorem dX8_alarms_13 : decode cX8_alarms 13 = .ok (.getfield 23, 3) := by decide +kernel
theorem dX8_alarms_16 : decode cX8_alarms 16 = .ok (.iload_n 1, 1) := by decide +kernel
theorem dX8_alarms_17 : decode cX8_alarms 17 = .ok (.invokestatic 190, 3) := by decide +kernel
theorem dX8_alarms_20 : decode cX8_alarms 20 = .ok (.iconst 2, 1) := by decide +kernel
theorem dX8_alarms_21 : decode cX8_alarms 21 = .ok (.iadd, 1) := by decide +kernel
theorem dX8_alarms_22 : decode cX8_alarms 22 = .ok (.aload_n 0, 1) := by decide +kernel
theorem dX8_alarms_23 : decode cX8_alarms 23 = .ok (.getfield 23, 3) := by decide +kernel
theorem dX8_alarms_26 : decode cX8_alarms 26 = .ok (.iconst 0, 1) := by decide +kernel
theorem dX8_alarms_27 : decode cX8_alarms 27 = .ok (.iaload, 1) := by decide +kernel
theorem dX8_alarms_28 : decode cX8_alarms 28 = .ok (.iastore, 1) := by decide +kernel
theorem dX8_alarms_29 : decode cX8_alarms 29 = .ok (.aload_n 0, 1) := by decide +kernel
theorem dX8_alarms_30 : decode cX8_alarms 30 = .ok (.iconst 0, 1) := by decide +kernel
theorem dX8_alarms_31 : decode cX8_alarms 31 = .ok (.iload_n 1, 1) := by decide +kernel
theorem dX8_alarms_32 : decode cX8_alarms 32 = .ok (.invokevirtual 234, 3) := by decide +kernel
theorem dX8_alarms_35 : decode cX8_alarms 35 = .ok (.aload_n 0, 1) := by decide +kernel
theorem dX8_alarms_36 : decode cX8_alarms 36 = .ok (.invokevirtual 199, 3) := by decide +kernel
theorem dX8_alarms_39 : decode cX8_alarms 39 = .ok (.return_, 1) := by decide +kernel
theorem dX8_fail_0 : decode cX8_fail 0 = .ok (.aload_n 0, 1) := by decide +kernel
theorem dX8_fail_1 : decode cX8_fail 1 = .ok (.aload_n 0, 1) := by decide +kernel
theorem dX8_fail_2 : decode cX8_fail 2 = .ok (.iload_n 1, 1) := by decide +kernel
theorem dX8_fail_3 : decode cX8_fail 3 = .ok (.invokevirtual 253, 3) := by decide +kernel
theorem dX8_fail_6 : decode cX8_fail 6 = .ok (.ifCond .ne 7, 3) := by decide +kernel
theorem dX8_fail_9 : decode cX8_fail 9 = .ok (.iconst 1, 1) := by decide +kernel
theorem dX8_fail_10 : decode cX8_fail 10 = .ok (.goto 29, 3) := by decide +kernel
theorem dX8_fail_13 : decode cX8_fail 13 = .ok (.iload_n 2, 1) := by decide +kernel
theorem dX8_fail_14 : decode cX8_fail 14 = .ok (.iconst 0, 1) := by decide +kernel
theorem dX8_fail_15 : decode cX8_fail 15 = .ok (.iconst 3, 1) := by decide +kernel
theorem dX8_fail_16 : decode cX8_fail 16 = .ok (.invokestatic 82, 3) := by decide +kernel
theorem dX8_fail_19 : decode cX8_fail 19 = .ok (.ifCond .ne 7, 3) := by decide +kernel
theorem dX8_fail_22 : decode cX8_fail 22 = .ok (.iconst 2, 1) := by decide +kernel
theorem dX8_fail_23 : decode cX8_fail 23 = .ok (.goto 16, 3) := by decide +kernel
theorem dX8_fail_26 : decode cX8_fail 26 = .ok (.aload_n 0, 1) := by decide +kernel
theorem dX8_fail_27 : decode cX8_fail 27 = .ok (.iload_n 1, 1) := by decide +kernel
theorem dX8_fail_28 : decode cX8_fail 28 = .ok (.invokevirtual 206, 3) := by decide +kernel
theorem dX8_fail_31 : decode cX8_fail 31 = .ok (.ifCond .ne 7, 3) := by decide +kernel
theorem dX8_fail_34 : decode cX8_fail 34 = .ok (.iconst 3, 1) := by decide +kernel
theorem dX8_fail_35 : decode cX8_fail 35 = .ok (.goto 4, 3) := by decide +kernel
theorem dX8_fail_38 : decode cX8_fail 38 = .ok (.iconst 0, 1) := by decide +kernel
theorem dX8_fail_39 : decode cX8_fail 39 = .ok (.putfield 55, 3) := by decide +kernel
theorem dX8_fail_42 : decode cX8_fail 42 = .ok (.aload_n 0, 1) := by decide +kernel
theorem dX8_fail_43 : decode cX8_fail 43 = .ok (.getfield 55, 3) := by decide +kernel
theorem dX8_fail_46 : decode cX8_fail 46 = .ok (.ifCond .le 5, 3) := by decide +kernel
theorem dX8_fail_49 : decode cX8_fail 49 = .ok (.iconst 0, 1) := by decide +kernel
theorem dX8_fail_50 : decode cX8_fail 50 = .ok (.ireturn, 1) := by decide +kernel
theorem dX8_fail_51 : decode cX8_fail 51 = .ok (.aload_n 0, 1) := by decide +kernel
theorem dX8_fail_52 : decode cX8_fail 52 = .ok (.invokevirtual 289, 3) := by decide +kernel
theorem dX8_fail_55 : decode cX8_fail 55 = .ok (.aload_n 0, 1) := by decide +kernel
theorem dX8_fail_56 : decode cX8_fail 56 = .ok (.iload_n 1, 1) := by decide +kernel
theorem dX8_fail_57 : decode cX8_fail 57 = .ok (.iload_n 2, 1) := by decide +kernel
theorem dX8_fail_58 : decode cX8_fail 58 = .ok (.invokevirtual 241, 3) := by decide +kernel
theorem dX8_fail_61 : decode cX8_fail 61 = .ok (.aload_n 0, 1) := by decide +kernel
theorem dX8_fail_62 : decode cX8_fail 62 = .ok (.iload_n 1, 1) := by decide +kernel
theorem dX8_fail_63 : decode cX8_fail 63 = .ok (.iload_n 2, 1) := by decide +kernel
theorem dX8_fail_64 : decode cX8_fail 64 = .ok (.invokevirtual 295, 3) := by decide +kernel
theorem dX8_fail_67 : decode cX8_fail 67 = .ok (.aload_n 0, 1) := by decide +kernel
theorem dX8_fail_68 : decode cX8_fail 68 = .ok (.iload_n 1, 1) := by decide +kernel
theorem dX8_fail_69 : decode cX8_fail 69 = .ok (.invokevirtual 209, 3) := by decide +kernel
theorem dX8_fail_72 : decode cX8_fail 72 = .ok (.ifCond .ne 22, 3) := by decide +kernel
theorem dX8_fail_75 : decode cX8_fail 75 = .ok (.aload_n 0, 1) := by decide +kernel
theorem dX8_fail_76 : decode cX8_fail 76 = .ok (.iload_n 1, 1) := by decide +kernel
theorem dX8_fail_77 : decode cX8_fail 77 = .ok (.invokevirtual 244, 3) := by decide +kernel
theorem dX8_fail_80 : decode cX8_fail 80 = .ok (.aload_n 0, 1) := by decide +kernel
theorem dX8_fail_81 : decode cX8_fail 81 = .ok (.getfield 23, 3) := by decide +kernel
theorem dX8_fail_84 : decode cX8_fail 84 = .ok (.iconst 1, 1) := by decide +kernel
theorem dX8_fail_85 : decode cX8_fail 85 = .ok (.iaload, 1) := by decide +kernel
theorem dX8_fail_86 : decode cX8_fail 86 = .ok (.if_icmp .lt 8, 3) := by decide +kernel
theorem dX8_fail_89 : decode cX8_fail 89 = .ok (.aload_n 0, 1) := by decide +kernel
theorem dX8_fail_90 : decode cX8_fail 90 = .ok (.iload_n 1, 1) := by decide +kernel
theorem dX8_fail_91 : decode cX8_fail 91 = .ok (.invokevirtual 298, 3) := by decide +kernel
theorem dX8_fail_94 : decode cX8_fail 94 = .ok (.aload_n 0, 1) := by decide +kernel
theorem dX8_fail_95 : decode cX8_fail 95 = .ok (.iload_n 1, 1) := by decide +kernel
theorem dX8_fail_96 : decode cX8_fail 96 = .ok (.invokevirtual 244, 3) := by decide +kernel
theorem dX8_fail_99 : decode cX8_fail 99 = .ok (.ireturn, 1) := by decide +kernel
theorem dX8_warn_0 : decode cX8_warn 0 = .ok (.aload_n 0, 1) := by decide +kernel
theorem dX8_warn_1 : decode cX8_warn 1 = .ok (.aload_n 0, 1) := by decide +kernel
theorem dX8_warn_2 : decode cX8_warn 2 = .ok (.iload_n 1, 1) := by decide +kernel
theorem dX8_warn_3 : decode cX8_warn 3 = .ok (.invokevirtual 253, 3) := by decide +kernel
theorem dX8_warn_6 : decode cX8_warn 6 = .ok (.ifCond .ne 7, 3) := by decide +kernel
theorem dX8_warn_9 : decode cX8_warn 9 = .ok (.iconst 1, 1) := by decide +kernel
theorem dX8_warn_10 : decode cX8_warn 10 = .ok (.goto 16, 3) := by decide +kernel
theorem dX8_warn_13 : decode cX8_warn 13 = .ok (.aload_n 0, 1) := by decide +kernel
theorem dX8_warn_14 : decode cX8_warn 14 = .ok (.iload_n 1, 1) := by decide +kernel
theorem dX8_warn_15 : decode cX8_warn 15 = .ok (.invokevirtual 215, 3) := by decide +kernel
theorem dX8_warn_18 : decode cX8_warn 18 = .ok (.ifCond .ne 7, 3) := by decide +kernel
theorem dX8_warn_21 : decode cX8_warn 21 = .ok (.iconst 2, 1) := by decide +kernel
theorem dX8_warn_22 : decode cX8_warn 22 = .ok (.goto 4, 3) := by decide +kernel
theorem dX8_warn_25 : decode cX8_warn 25 = .ok (.iconst 0, 1) := by decide +kernel
theorem dX8_warn_26 : decode cX8_warn 26 = .ok (.putfield 55, 3) := by decide +kernel
theorem dX8_warn_29 : decode cX8_warn 29 = .ok (.aload_n 0, 1) := by decide +kernel
theorem dX8_warn_30 : decode cX8_warn 30 = .ok (.getfield 55, 3) := by decide +kernel
theorem dX8_warn_33 : decode cX8_warn 33 = .ok (.ifCond .le 5, 3) := by decide +kernel
theorem dX8_warn_36 : decode cX8_warn 36 = .ok (.iconst 0, 1) := by decide +kernel
theorem dX8_warn_37 : decode cX8_warn 37 = .ok (.ireturn, 1) := by decide +kernel
theorem dX8_warn_38 : decode cX8_warn 38 = .ok (.aload_n 0, 1) := by decide +kernel
theorem dX8_warn_39 : decode cX8_warn 39 = .ok (.invokevirtual 289, 3) := by decide +kernel
theorem dX8_warn_42 : decode cX8_warn 42 = .ok (.aload_n 0, 1) := by decide +kernel
theorem dX8_warn_43 : decode cX8_warn 43 = .ok (.iload_n 1, 1) := by decide +kernel
theorem dX8_warn_44 : decode cX8_warn 44 = .ok (.invokevirtual 274, 3) := by decide +kernel
theorem dX8_warn_47 : decode cX8_warn 47 = .ok (.istore_n 2, 1) := by decide +kernel
theorem dX8_warn_48 : decode cX8_warn 48 = .ok (.aload_n 0, 1) := by decide +kernel
theorem dX8_warn_49 : decode cX8_warn 49 = .ok (.iload_n 1, 1) := by decide +kernel
theorem dX8_warn_50 : decode cX8_warn 50 = .ok (.invokevirtual 298, 3) := by decide +kernel
theorem dX8_warn_53 : decode cX8_warn 53 = .ok (.iload_n 2, 1) := by decide +kernel
theorem dX8_warn_54 : decode cX8_warn 54 = .ok (.ireturn, 1) := by decide +kernel
theorem dX8_callOff_0 : decode cX8_callOff 0 = .ok (.aload_n 0, 1) := by decide +kernel
theorem dX8_callOff_1 : decode cX8_callOff 1 = .ok (.aload_n 0, 1) := by decide +kernel
theorem dX8_callOff_2 : decode cX8_callOff 2 = .ok (.iload_n 1, 1) := by decide +kernel
theorem dX8_callOff_3 : decode cX8_callOff 3 = .ok (.invokevirtual 253, 3) := by decide +kernel
theorem dX8_callOff_6 : decode cX8_callOff 6 = .ok (.ifCond .ne 7, 3) := by decide +kernel
theorem dX8_callOff_9 : decode cX8_callOff 9 = .ok (.iconst 1, 1) := by decide +kernel
theorem dX8_callOff_10 : decode cX8_callOff 10 = .ok (.goto 16, 3) := by decide +kernel
theorem dX8_callOff_13 : decode cX8_callOff 13 = .ok (.aload_n 0, 1) := by decide +kernel
theorem dX8_callOff_14 : decode cX8_callOff 14 = .ok (.iload_n 1, 1) := by decide +kernel
theorem dX8_callOff_15 : decode cX8_callOff 15 = .ok (.invokevirtual 209, 3) := by decide +kernel
theorem dX8_callOff_18 : decode cX8_callOff 18 = .ok (.ifCond .ne 7, 3) := by decide +kernel
theorem dX8_callOff_21 : decode cX8_callOff 21 = .ok (.iconst 2, 1) := by decide +kernel
theorem dX8_callOff_22 : decode cX8_callOff 22 = .ok (.goto 4, 3) := by decide +kernel
theorem dX8_callOff_25 : decode cX8_callOff 25 = .ok (.iconst 0, 1) := by decide +kernel
theorem dX8_callOff_26 : decode cX8_callOff 26 = .ok (.putfield 55, 3) := by decide +kernel
theorem dX8_callOff_29 : decode cX8_callOff 29 = .ok (.aload_n 0, 1) := by decide +kernel
theorem dX8_callOff_30 : decode cX8_callOff 30 = .ok (.getfield 55, 3) := by decide +kernel
theorem dX8_callOff_33 : decode cX8_callOff 33 = .ok (.ifCond .le 5, 3) := by decide +kernel
theorem dX8_callOff_36 : decode cX8_callOff 36 = .ok (.iconst 0, 1) := by decide +kernel
theorem dX8_callOff_37 : decode cX8_callOff 37 = .ok (.ireturn, 1) := by decide +kernel
theorem dX8_callOff_38 : decode cX8_callOff 38 = .ok (.aload_n 0, 1) := by decide +kernel
theorem dX8_callOff_39 : decode cX8_callOff 39 = .ok (.invokevirtual 289, 3) := by decide +kernel
theorem dX8_callOff_42 : decode cX8_callOff 42 = .ok (.aload_n 0, 1) := by decide +kernel
theorem dX8_callOff_43 : decode cX8_callOff 43 = .ok (.iload_n 1, 1) := by decide +kernel
theorem dX8_callOff_44 : decode cX8_callOff 44 = .ok (.invokevirtual 286, 3) := by decide +kernel
theorem dX8_callOff_47 : decode cX8_callOff 47 = .ok (.aload_n 0, 1) := by decide +kernel
theorem dX8_callOff_48 : decode cX8_callOff 48 = .ok (.invokevirtual 199, 3) := by decide +kernel
theorem dX8_callOff_51 : decode cX8_callOff 51 = .ok (.aload_n 0, 1) := by decide +kernel
theorem dX8_callOff_52 : decode cX8_callOff 52 = .ok (.iload_n 1, 1) := by decide +kernel
theorem dX8_callOff_53 : decode cX8_callOff 53 = .ok (.invokevirtual 301, 3) := by decide +kernel
theorem dX8_callOff_56 : decode cX8_callOff 56 = .ok (.ireturn, 1) := by decide +kernel
theorem dX8_unplug_0 : decode cX8_unplug 0 = .ok (.aload_n 0, 1) := by decide +kernel
theorem dX8_unplug_1 : decode cX8_unplug 1 = .ok (.aload_n 0, 1) := by decide +kernel
theorem dX8_unplug_2 : decode cX8_unplug 2 = .ok (.iload_n 1, 1) := by decide +kernel
theorem dX8_unplug_3 : decode cX8_unplug 3 = .ok (.invokevirtual 253, 3) := by decide +kernel
theorem dX8_unplug_6 : decode cX8_unplug 6 = .ok (.ifCond .ne 7, 3) := by decide +kernel
theorem dX8_unplug_9 : decode cX8_unplug 9 = .ok (.iconst 1, 1) := by decide +kernel
theorem dX8_unplug_10 : decode cX8_unplug 10 = .ok (.goto 16, 3) := by decide +kernel
theorem dX8_unplug_13 : decode cX8_unplug 13 = .ok (.aload_n 0, 1) := by decide +kernel
theorem dX8_unplug_14 : decode cX8_unplug 14 = .ok (.iload_n 1, 1) := by decide +kernel
theorem dX8_unplug_15 : decode cX8_unplug 15 = .ok (.invokevirtual 206, 3) := by decide +kernel
theorem dX8_unplug_18 : decode cX8_unplug 18 = .ok (.ifCond .ne 7, 3) := by decide +kernel
theorem dX8_unplug_21 : decode cX8_unplug 21 = .ok (.iconst 2, 1) := by decide +kernel
theorem dX8_unplug_22 : decode cX8_unplug 22 = .ok (.goto 4, 3) := by decide +kernel
theorem dX8_unplug_25 : decode cX8_unplug 25 = .ok (.iconst 0, 1) := by decide +kernel
theorem dX8_unplug_26 : decode cX8_unplug 26 = .ok (.putfield 55, 3) := by decide +kernel
theorem dX8_unplug_29 : decode cX8_unplug 29 = .ok (.aload_n 0, 1) := by decide +kernel
theorem dX8_unplug_30 : decode cX8_unplug 30 = .ok (.getfield 55, 3) := by decide +kernel
theorem dX8_unplug_33 : decode cX8_unplug 33 = .ok (.ifCond .le 5, 3) := by decide +kernel
theorem dX8_unplug_36 : decode cX8_unplug 36 = .ok (.iconst 0, 1) := by decide +kernel
theorem dX8_unplug_37 : decode cX8_unplug 37 = .ok (.ireturn, 1) := by decide +kernel
theorem dX8_unplug_38 : decode cX8_unplug 38 = .ok (.aload_n 0, 1) := by decide +kernel
theorem dX8_unplug_39 : decode cX8_unplug 39 = .ok (.invokevirtual 289, 3) := by decide +kernel
theorem dX8_unplug_42 : decode cX8_unplug 42 = .ok (.aload_n 0, 1) := by decide +kernel
theorem dX8_unplug_43 : decode cX8_unplug 43 = .ok (.iload_n 1, 1) := by decide +kernel
theorem dX8_unplug_44 : decode cX8_unplug 44 = .ok (.invokevirtual 277, 3) := by decide +kernel
theorem dX8_unplug_47 : decode cX8_unplug 47 = .ok (.istore_n 2, 1) := by decide +kernel
theorem dX8_unplug_48 : decode cX8_unplug 48 = .ok (.aload_n 0, 1) := by decide +kernel
theorem dX8_unplug_49 : decode cX8_unplug 49 = .ok (.aload_n 0, 1) := by decide +kernel
theorem dX8_unplug_50 : decode cX8_unplug 50 = .ok (.iload_n 1, 1) := by decide +kernel
theorem dX8_unplug_51 : decode cX8_unplug 51 = .ok (.invokevirtual 209, 3) := by decide +kernel
theorem dX8_unplug_54 : decode cX8_unplug 54 = .ok (.ifCond .eq 7, 3) := by decide +kernel
theorem dX8_unplug_57 : decode cX8_unplug 57 = .ok (.iconst 2, 1) := by decide +kernel
theorem dX8_unplug_58 : decode cX8_unplug 58 = .ok (.goto 4, 3) := by decide +kernel
theorem dX8_unplug_61 : decode cX8_unplug 61 = .ok (.iconst 3, 1) := by decide +kernel
theorem dX8_unplug_62 : decode cX8_unplug 62 = .ok (.iload_n 1, 1) := by decide +kernel
theorem dX8_unplug_63 : decode cX8_unplug 63 = .ok (.invokevirtual 234, 3) := by decide +kernel
theorem dX8_unplug_66 : decode cX8_unplug 66 = .ok (.aload_n 0, 1) := by decide +kernel
theorem dX8_unplug_67 : decode cX8_unplug 67 = .ok (.getfield 23, 3) := by decide +kernel
theorem dX8_unplug_70 : decode cX8_unplug 70 = .ok (.iload_n 1, 1) := by decide +kernel
theorem dX8_unplug_71 : decode cX8_unplug 71 = .ok (.invokestatic 190, 3) := by decide +kernel
theorem dX8_unplug_74 : decode cX8_unplug 74 = .ok (.iconst 0, 1) := by decide +kernel
theorem dX8_unplug_75 : decode cX8_unplug 75 = .ok (.iadd, 1) := by decide +kernel
theorem dX8_unplug_76 : decode cX8_unplug 76 = .ok (.iconst (-1), 1) := by decide +kernel
theorem dX8_unplug_77 : decode cX8_unplug 77 = .ok (.iastore, 1) := by decide +kernel
theorem dX8_unplug_78 : decode cX8_unplug 78 = .ok (.aload_n 0, 1) := by decide +kernel
theorem dX8_unplug_79 : decode cX8_unplug 79 = .ok (.getfield 23, 3) := by decide +kernel
theorem dX8_unplug_82 : decode cX8_unplug 82 = .ok (.iload_n 1, 1) := by decide +kernel
theorem dX8_unplug_83 : decode cX8_unplug 83 = .ok (.invokestatic 190, 3) := by decide +kernel
theorem dX8_unplug_86 : decode cX8_unplug 86 = .ok (.iconst 1, 1) := by decide +kernel
theorem dX8_unplug_87 : decode cX8_unplug 87 = .ok (.iadd, 1) := by decide +kernel
theorem dX8_unplug_88 : decode cX8_unplug 88 = .ok (.iconst 0, 1) := by decide +kernel
theorem dX8_unplug_89 : decode cX8_unplug 89 = .ok (.iastore, 1) := by decide +kernel
theorem dX8_unplug_90 : decode cX8_unplug 90 = .ok (.aload_n 0, 1) := by decide +kernel
theorem dX8_unplug_91 : decode cX8_unplug 91 = .ok (.getfield 23, 3) := by decide +kernel
theorem dX8_unplug_94 : decode cX8_unplug 94 = .ok (.iload_n 1, 1) := by decide +kernel
theorem dX8_unplug_95 : decode cX8_unplug 95 = .ok (.invokestatic 190, 3) := by decide +kernel
theorem dX8_unplug_98 : decode cX8_unplug 98 = .ok (.iconst 3, 1) := by decide +kernel
theorem dX8_unplug_99 : decode cX8_unplug 99 = .ok (.iadd, 1) := by decide +kernel
theorem dX8_unplug_100 : decode cX8_unplug 100 = .ok (.iconst 0, 1) := by decide +kernel
theorem dX8_unplug_101 : decode cX8_unplug 101 = .ok (.iastore, 1) := by decide +kernel
theorem dX8_unplug_102 : decode cX8_unplug 102 = .ok (.iconst 0, 1) := by decide +kernel
theorem dX8_unplug_103 : decode cX8_unplug 103 = .ok (.istore_n 3, 1) := by decide +kernel
theorem dX8_unplug_104 : decode cX8_unplug 104 = .ok (.iload_n 3, 1) := by decide +kernel
theorem dX8_unplug_105 : decode cX8_unplug 105 = .ok (.aload_n 0, 1) := by decide +kernel
theorem dX8_unplug_106 : decode cX8_unplug 106 = .ok (.invokevirtual 184, 3) := by decide +kernel
theorem dX8_unplug_109 : decode cX8_unplug 109 = .ok (.if_icmp .ge 61, 3) := by decide +kernel
theorem dX8_unplug_112 : decode cX8_unplug 112 = .ok (.aload_n 0, 1) := by decide +kernel
theorem dX8_unplug_113 : decode cX8_unplug 113 = .ok (.iload_n 3, 1) := by decide +kernel
theorem dX8_unplug_114 : decode cX8_unplug 114 = .ok (.iload_n 1, 1) := by decide +kernel
theorem dX8_unplug_115 : decode cX8_unplug 115 = .ok (.invokevirtual 250, 3) := by decide +kernel
theorem dX8_unplug_118 : decode cX8_unplug 118 = .ok (.ifCond .ne 6, 3) := by decide +kernel
theorem dX8_unplug_121 : decode cX8_unplug 121 = .ok (.goto 43, 3) := by decide +kernel
theorem dX8_unplug_124 : decode cX8_unplug 124 = .ok (.aload_n 0, 1) := by decide +kernel
theorem dX8_unplug_125 : decode cX8_unplug 125 = .ok (.iload_n 3, 1) := by decide +kernel
theorem dX8_unplug_126 : decode cX8_unplug 126 = .ok (.iconst 0, 1) := by decide +kernel
theorem dX8_unplug_127 : decode cX8_unplug 127 = .ok (.iconst (-1), 1) := by decide +kernel
theorem dX8_unplug_128 : decode cX8_unplug 128 = .ok (.invokevirtual 230, 3) := by decide +kernel
theorem dX8_unplug_131 : decode cX8_unplug 131 = .ok (.aload_n 0, 1) := by decide +kernel
theorem dX8_unplug_132 : decode cX8_unplug 132 = .ok (.getfield 23, 3) := by decide +kernel
theorem dX8_unplug_135 : decode cX8_unplug 135 = .ok (.iload_n 3, 1) := by decide +kernel
theorem dX8_unplug_136 : decode cX8_unplug 136 = .ok (.invokestatic 193, 3) := by decide +kernel
theorem dX8_unplug_139 : decode cX8_unplug 139 = .ok (.iconst 2, 1) := by decide +kernel
theorem dX8_unplug_140 : decode cX8_unplug 140 = .ok (.iadd, 1) := by decide +kernel
theorem dX8_unplug_141 : decode cX8_unplug 141 = .ok (.iaload, 1) := by decide +kernel
theorem dX8_unplug_142 : decode cX8_unplug 142 = .ok (.ifCond .le 10, 3) := by decide +kernel
theorem dX8_unplug_145 : decode cX8_unplug 145 = .ok (.aload_n 0, 1) := by decide +kernel
theorem dX8_unplug_146 : decode cX8_unplug 146 = .ok (.bipush 7, 2) := by decide +kernel
theorem dX8_unplug_148 : decode cX8_unplug 148 = .ok (.iload_n 3, 1) := by decide +kernel
theorem dX8_unplug_149 : decode cX8_unplug 149 = .ok (.invokevirtual 234, 3) := by decide +kernel
theorem dX8_unplug_152 : decode cX8_unplug 152 = .ok (.aload_n 0, 1) := by decide +kernel
theorem dX8_unplug_153 : decode cX8_unplug 153 = .ok (.getfield 23, 3) := by decide +kernel
theorem dX8_unplug_156 : decode cX8_unplug 156 = .ok (.iload_n 3, 1) := by decide +kernel
theorem dX8_unplug_157 : decode cX8_unplug 157 = .ok (.invokestatic 193, 3) := by decide +kernel
theorem dX8_unplug_160 : decode cX8_unplug 160 = .ok (.iconst 2, 1) := by decide +kernel
theorem dX8_unplug_161 : decode cX8_unplug 161 = .ok (.iadd, 1) := by decide +kernel
theorem dX8_unplug_162 : decode cX8_unplug 162 = .ok (.iconst 0, 1) := by decide +kernel
theorem dX8_unplug_163 : decode cX8_unplug 163 = .ok (.iastore, 1) := by decide +kernel
theorem dX8_unplug_164 : decode cX8_unplug 164 = .ok (.iinc 3 1, 3) := by decide +kernel
theorem dX8_unplug_167 : decode cX8_unplug 167 = .ok (.goto (-63), 3) := by decide +kernel
theorem dX8_unplug_170 : decode cX8_unplug 170 = .ok (.aload_n 0, 1) := by decide +kernel
theorem dX8_unplug_171 : decode cX8_unplug 171 = .ok (.getfield 23, 3) := by decide +kernel
theorem dX8_unplug_174 : decode cX8_unplug 174 = .ok (.bipush 10, 2) := by decide +kernel
theorem dX8_unplug_176 : decode cX8_unplug 176 = .ok (.dup2, 1) := by decide +kernel
theorem dX8_unplug_177 : decode cX8_unplug 177 = .ok (.iaload, 1) := by decide +kernel
theorem dX8_unplug_178 : decode cX8_unplug 178 = .ok (.iload_n 2, 1) := by decide +kernel
theorem dX8_unplug_179 : decode cX8_unplug 179 = .ok (.iadd, 1) := by decide +kernel
theorem dX8_unplug_180 : decode cX8_unplug 180 = .ok (.iastore, 1) := by decide +kernel
theorem dX8_unplug_181 : decode cX8_unplug 181 = .ok (.aload_n 0, 1) := by decide +kernel
theorem dX8_unplug_182 : decode cX8_unplug 182 = .ok (.invokevirtual 199, 3) := by decide +kernel
theorem dX8_unplug_185 : decode cX8_unplug 185 = .ok (.iload_n 2, 1) := by decide +kernel
theorem dX8_unplug_186 : decode cX8_unplug 186 = .ok (.ireturn, 1) := by decide +kernel
theorem dX8_plug_0 : decode cX8_plug 0 = .ok (.aload_n 0, 1) := by decide +kernel
theorem dX8_plug_1 : decode cX8_plug 1 = .ok (.aload_n 0, 1) := by decide +kernel
theorem dX8_plug_2 : decode cX8_plug 2 = .ok (.iload_n 1, 1) := by decide +kernel
theorem dX8_plug_3 : decode cX8_plug 3 = .ok (.invokevirtual 253, 3) := by decide +kernel
theorem dX8_plug_6 : decode cX8_plug 6 = .ok (.ifCond .eq 19, 3) := by decide +kernel
theorem dX8_plug_9 : decode cX8_plug 9 = .ok (.iload_n 2, 1) := by decide +kernel
theorem dX8_plug_10 : decode cX8_plug 10 = .ok (.iconst 0, 1) := by decide +kernel
theorem dX8_plug_11 : decode cX8_plug 11 = .ok (.aload_n 0, 1) := by decide +kernel
theorem dX8_plug_12 : decode cX8_plug 12 = .ok (.getfield 17, 3) := by decide +kernel
theorem dX8_plug_15 : decode cX8_plug 15 = .ok (.iconst 4, 1) := by decide +kernel
theorem dX8_plug_16 : decode cX8_plug 16 = .ok (.iaload, 1) := by decide +kernel
theorem dX8_plug_17 : decode cX8_plug 17 = .ok (.iconst 1, 1) := by decide +kernel
theorem dX8_plug_18 : decode cX8_plug 18 = .ok (.isub, 1) := by decide +kernel
theorem dX8_plug_19 : decode cX8_plug 19 = .ok (.invokestatic 82, 3) := by decide +kernel
theorem dX8_plug_22 : decode cX8_plug 22 = .ok (.ifCond .ne 7, 3) := by decide +kernel
theorem dX8_plug_25 : decode cX8_plug 25 = .ok (.iconst 1, 1) := by decide +kernel
theorem dX8_plug_26 : decode cX8_plug 26 = .ok (.goto 25, 3) := by decide +kernel
theorem dX8_plug_29 : decode cX8_plug 29 = .ok (.aload_n 0, 1) := by decide +kernel
theorem dX8_plug_30 : decode cX8_plug 30 = .ok (.iload_n 1, 1) := by decide +kernel
theorem dX8_plug_31 : decode cX8_plug 31 = .ok (.invokevirtual 206, 3) := by decide +kernel
theorem dX8_plug_34 : decode cX8_plug 34 = .ok (.ifCond .ne 12, 3) := by decide +kernel
theorem dX8_plug_37 : decode cX8_plug 37 = .ok (.aload_n 0, 1) := by decide +kernel
theorem dX8_plug_38 : decode cX8_plug 38 = .ok (.iload_n 2, 1) := by decide +kernel
theorem dX8_plug_39 : decode cX8_plug 39 = .ok (.invokevirtual 247, 3) := by decide +kernel
theorem dX8_plug_42 : decode cX8_plug 42 = .ok (.iconst (-1), 1) := by decide +kernel
theorem dX8_plug_43 : decode cX8_plug 43 = .ok (.if_icmp .eq 7, 3) := by decide +kernel
theorem dX8_plug_46 : decode cX8_plug 46 = .ok (.iconst 2, 1) := by decide +kernel
theorem dX8_plug_47 : decode cX8_plug 47 = .ok (.goto 4, 3) := by decide +kernel
theorem dX8_plug_50 : decode cX8_plug 50 = .ok (.iconst 0, 1) := by decide +kernel
theorem dX8_plug_51 : decode cX8_plug 51 = .ok (.putfield 55, 3) := by decide +kernel
theorem dX8_plug_54 : decode cX8_plug 54 = .ok (.aload_n 0, 1) := by decide +kernel
theorem dX8_plug_55 : decode cX8_plug 55 = .ok (.getfield 55, 3) := by decide +kernel
theorem dX8_plug_58 : decode cX8_plug 58 = .ok (.ifCond .le 5, 3) := by decide +kernel
theorem dX8_plug_61 : decode cX8_plug 61 = .ok (.iconst 0, 1) := by decide +kernel
theorem dX8_plug_62 : decode cX8_plug 62 = .ok (.ireturn, 1) := by decide +kernel
theorem dX8_plug_63 : decode cX8_plug 63 = .ok (.aload_n 0, 1) := by decide +kernel
theorem dX8_plug_64 : decode cX8_plug 64 = .ok (.invokevirtual 289, 3) := by decide +kernel
theorem dX8_plug_67 : decode cX8_plug 67 = .ok (.aload_n 0, 1) := by decide +kernel
theorem dX8_plug_68 : decode cX8_plug 68 = .ok (.getfield 23, 3) := by decide +kernel
theorem dX8_plug_71 : decode cX8_plug 71 = .ok (.iload_n 1, 1) := by decide +kernel
theorem dX8_plug_72 : decode cX8_plug 72 = .ok (.invokestatic 190, 3) := by decide +kernel
theorem dX8_plug_75 : decode cX8_plug 75 = .ok (.iconst 0, 1) := by decide +kernel
theorem dX8_plug_76 : decode cX8_plug 76 = .ok (.iadd, 1) := by decide +kernel
theorem dX8_plug_77 : decode cX8_plug 77 = .ok (.iload_n 2, 1) := by decide +kernel
theorem dX8_plug_78 : decode cX8_plug 78 = .ok (.iastore, 1) := by decide +kernel
theorem dX8_plug_79 : decode cX8_plug 79 = .ok (.aload_n 0, 1) := by decide +kernel
theorem dX8_plug_80 : decode cX8_plug 80 = .ok (.getfield 23, 3) := by decide +kernel
theorem dX8_plug_83 : decode cX8_plug 83 = .ok (.iload_n 1, 1) := by decide +kernel
theorem dX8_plug_84 : decode cX8_plug 84 = .ok (.invokestatic 190, 3) := by decide +kernel
theorem dX8_plug_87 : decode cX8_plug 87 = .ok (.iconst 3, 1) := by decide +kernel
theorem dX8_plug_88 : decode cX8_plug 88 = .ok (.iadd, 1) := by decide +kernel
theorem dX8_plug_89 : decode cX8_plug 89 = .ok (.iconst 0, 1) := by decide +kernel
theorem dX8_plug_90 : decode cX8_plug 90 = .ok (.iastore, 1) := by decide +kernel
theorem dX8_plug_91 : decode cX8_plug 91 = .ok (.aload_n 0, 1) := by decide +kernel
theorem dX8_plug_92 : decode cX8_plug 92 = .ok (.invokevirtual 199, 3) := by decide +kernel
theorem dX8_plug_95 : decode cX8_plug 95 = .ok (.aload_n 0, 1) := by decide +kernel
theorem dX8_plug_96 : decode cX8_plug 96 = .ok (.iload_n 1, 1) := by decide +kernel
theorem dX8_plug_97 : decode cX8_plug 97 = .ok (.invokevirtual 301, 3) := by decide +kernel
theorem dX8_plug_100 : decode cX8_plug 100 = .ok (.ireturn, 1) := by decide +kernel
theorem dX8_setScore_0 : decode cX8_setScore 0 = .ok (.aload_n 0, 1) := by decide +kernel
theorem dX8_setScore_1 : decode cX8_setScore 1 = .ok (.iload_n 1, 1) := by decide +kernel
theorem dX8_setScore_2 : decode cX8_setScore 2 = .ok (.iconst 1, 1) := by decide +kernel
theorem dX8_setScore_3 : decode cX8_setScore 3 = .ok (.sipush 999, 3) := by decide +kernel
theorem dX8_setScore_6 : decode cX8_setScore 6 = .ok (.invokestatic 82, 3) := by decide +kernel
theorem dX8_setScore_9 : decode cX8_setScore 9 = .ok (.ifCond .eq 7, 3) := by decide +kernel
theorem dX8_setScore_12 : decode cX8_setScore 12 = .ok (.iconst 0, 1) := by decide +kernel
theorem dX8_setScore_13 : decode cX8_setScore 13 = .ok (.goto 4, 3) := by decide +kernel
theorem dX8_setScore_16 : decode cX8_setScore 16 = .ok (.iconst 1, 1) := by decide +kernel
theorem dX8_setScore_17 : decode cX8_setScore 17 = .ok (.putfield 55, 3) := by decide +kernel
theorem dX8_setScore_20 : decode cX8_setScore 20 = .ok (.aload_n 0, 1) := by decide +kernel
theorem dX8_setScore_21 : decode cX8_setScore 21 = .ok (.getfield 55, 3) := by decide +kernel
theorem dX8_setScore_24 : decode cX8_setScore 24 = .ok (.ifCond .le 5, 3) := by decide +kernel
theorem dX8_setScore_27 : decode cX8_setScore 27 = .ok (.iconst 0, 1) := by decide +kernel
theorem dX8_setScore_28 : decode cX8_setScore 28 = .ok (.ireturn, 1) := by decide +kernel
theorem dX8_setScore_29 : decode cX8_setScore 29 = .ok (.aload_n 0, 1) := by decide +kernel
theorem dX8_setScore_30 : decode cX8_setScore 30 = .ok (.invokevirtual 289, 3) := by decide +kernel
theorem dX8_setScore_33 : decode cX8_setScore 33 = .ok (.aload_n 0, 1) := by decide +kernel
theorem dX8_setScore_34 : decode cX8_setScore 34 = .ok (.getfield 23, 3) := by decide +kernel
theorem dX8_setScore_37 : decode cX8_setScore 37 = .ok (.iconst 1, 1) := by decide +kernel
theorem dX8_setScore_38 : decode cX8_setScore 38 = .ok (.iaload, 1) := by decide +kernel
theorem dX8_setScore_39 : decode cX8_setScore 39 = .ok (.istore_n 2, 1) := by decide +kernel
theorem dX8_setScore_40 : decode cX8_setScore 40 = .ok (.aload_n 0, 1) := by decide +kernel
theorem dX8_setScore_41 : decode cX8_setScore 41 = .ok (.getfield 23, 3) := by decide +kernel
theorem dX8_setScore_44 : decode cX8_setScore 44 = .ok (.iconst 1, 1) := by decide +kernel
theorem dX8_setScore_45 : decode cX8_setScore 45 = .ok (.iload_n 1, 1) := by decide +kernel
theorem dX8_setScore_46 : decode cX8_setScore 46 = .ok (.iastore, 1) := by decide +kernel
theorem dX8_setScore_47 : decode cX8_setScore 47 = .ok (.iload_n 2, 1) := by decide +kernel
theorem dX8_setScore_48 : decode cX8_setScore 48 = .ok (.ireturn, 1) := by decide +kernel
theorem dX8_undo_0 : decode cX8_undo 0 = .ok (.aload_n 0, 1) := by decide +kernel
theorem dX8_undo_1 : decode cX8_undo 1 = .ok (.iconst 0, 1) := by decide +kernel
theorem dX8_undo_2 : decode cX8_undo 2 = .ok (.putfield 55, 3) := by decide +kernel
theorem dX8_undo_5 : decode cX8_undo 5 = .ok (.aload_n 0, 1) := by decide +kernel
theorem dX8_undo_6 : decode cX8_undo 6 = .ok (.getfield 196, 3) := by decide +kernel
theorem dX8_undo_9 : decode cX8_undo 9 = .ok (.ifCond .ne 5, 3) := by decide +kernel
theorem dX8_undo_12 : decode cX8_undo 12 = .ok (.iconst (-1), 1) := by decide +kernel
theorem dX8_undo_13 : decode cX8_undo 13 = .ok (.ireturn, 1) := by decide +kernel
theorem dX8_undo_14 : decode cX8_undo 14 = .ok (.aload_n 0, 1) := by decide +kernel
theorem dX8_undo_15 : decode cX8_undo 15 = .ok (.dup, 1) := by decide +kernel
theorem dX8_undo_16 : decode cX8_undo 16 = .ok (.getfield 196, 3) := by decide +kernel
theorem dX8_undo_19 : decode cX8_undo 19 = .ok (.iconst 1, 1) := by decide +kernel
theorem dX8_undo_20 : decode cX8_undo 20 = .ok (.isub, 1) := by decide +kernel
theorem dX8_undo_21 : decode cX8_undo 21 = .ok (.putfield 196, 3) := by decide +kernel
theorem dX8_undo_24 : decode cX8_undo 24 = .ok (.aload_n 0, 1) := by decide +kernel
theorem dX8_undo_25 : decode cX8_undo 25 = .ok (.getfield 30, 3) := by decide +kernel
theorem dX8_undo_28 : decode cX8_undo 28 = .ok (.aload_n 0, 1) := by decide +kernel
theorem dX8_undo_29 : decode cX8_undo 29 = .ok (.getfield 33, 3) := by decide +kernel
theorem dX8_undo_32 : decode cX8_undo 32 = .ok (.aload_n 0, 1) := by decide +kernel
theorem dX8_undo_33 : decode cX8_undo 33 = .ok (.getfield 196, 3) := by decide +kernel
theorem dX8_undo_36 : decode cX8_undo 36 = .ok (.aload_n 0, 1) := by decide +kernel
theorem dX8_undo_37 : decode cX8_undo 37 = .ok (.getfield 23, 3) := by decide +kernel
theorem dX8_undo_40 : decode cX8_undo 40 = .ok (.aload_n 0, 1) := by decide +kernel
theorem dX8_undo_41 : decode cX8_undo 41 = .ok (.getfield 26, 3) := by decide +kernel
theorem dX8_undo_44 : decode cX8_undo 44 = .ok (.iconst 0, 1) := by decide +kernel
theorem dX8_undo_45 : decode cX8_undo 45 = .ok (.invokestatic 202, 3) := by decide +kernel
theorem dX8_undo_48 : decode cX8_undo 48 = .ok (.aload_n 0, 1) := by decide +kernel
theorem dX8_undo_49 : decode cX8_undo 49 = .ok (.getfield 196, 3) := by decide +kernel
theorem dX8_undo_52 : decode cX8_undo 52 = .ok (.ireturn, 1) := by decide +kernel
theorem dX8_saveSnapshot_0 : decode cX8_saveSnapshot 0 = .ok (.aload_n 0, 1) := by decide +kernel
theorem dX8_saveSnapshot_1 : decode cX8_saveSnapshot 1 = .ok (.iconst 0, 1) := by decide +kernel
theorem dX8_saveSnapshot_2 : decode cX8_saveSnapshot 2 = .ok (.putfield 55, 3) := by decide +kernel
theorem dX8_saveSnapshot_5 : decode cX8_saveSnapshot 5 = .ok (.iload_n 1, 1) := by decide +kernel
theorem dX8_saveSnapshot_6 : decode cX8_saveSnapshot 6 = .ok (.iconst 0, 1) := by decide +kernel
theorem dX8_saveSnapshot_7 : decode cX8_saveSnapshot 7 = .ok (.iconst 1, 1) := by decide +kernel
theorem dX8_saveSnapshot_8 : decode cX8_saveSnapshot 8 = .ok (.invokestatic 82, 3) := by decide +kernel
theorem dX8_saveSnapshot_11 : decode cX8_saveSnapshot 11 = .ok (.ifCond .ne 5, 3) := by decide +kernel
theorem dX8_saveSnapshot_14 : decode cX8_saveSnapshot 14 = .ok (.iconst 0, 1) := by decide +kernel
theorem dX8_saveSnapshot_15 : decode cX8_saveSnapshot 15 = .ok (.ireturn, 1) := by decide +kernel
theorem dX8_saveSnapshot_16 : decode cX8_saveSnapshot 16 = .ok (.aload_n 0, 1) := by decide +kernel
theorem dX8_saveSnapshot_17 : decode cX8_saveSnapshot 17 = .ok (.getfield 23, 3) := by decide +kernel
theorem dX8_saveSnapshot_20 : decode cX8_saveSnapshot 20 = .ok (.aload_n 0, 1) := by decide +kernel
theorem dX8_saveSnapshot_21 : decode cX8_saveSnapshot 21 = .ok (.getfield 26, 3) := by decide +kernel
theorem dX8_saveSnapshot_24 : decode cX8_saveSnapshot 24 = .ok (.iconst 0, 1) := by decide +kernel
theorem dX8_saveSnapshot_25 : decode cX8_saveSnapshot 25 = .ok (.aload_n 0, 1) := by decide +kernel
theorem dX8_saveSnapshot_26 : decode cX8_saveSnapshot 26 = .ok (.getfield 36, 3) := by decide +kernel
theorem dX8_saveSnapshot_29 : decode cX8_saveSnapshot 29 = .ok (.aload_n 0, 1) := by decide +kernel
theorem dX8_saveSnapshot_30 : decode cX8_saveSnapshot 30 = .ok (.getfield 39, 3) := by decide +kernel
theorem dX8_saveSnapshot_33 : decode cX8_saveSnapshot 33 = .ok (.iload_n 1, 1) := by decide +kernel
theorem dX8_saveSnapshot_34 : decode cX8_saveSnapshot 34 = .ok (.invokestatic 202, 3) := by decide +kernel
theorem dX8_saveSnapshot_37 : decode cX8_saveSnapshot 37 = .ok (.aload_n 0, 1) := by decide +kernel
theorem dX8_saveSnapshot_38 : decode cX8_saveSnapshot 38 = .ok (.getfield 42, 3) := by decide +kernel
theorem dX8_saveSnapshot_41 : decode cX8_saveSnapshot 41 = .ok (.iload_n 1, 1) := by decide +kernel
theorem dX8_saveSnapshot_42 : decode cX8_saveSnapshot 42 = .ok (.iconst 1, 1) := by decide +kernel
theorem dX8_saveSnapshot_43 : decode cX8_saveSnapshot 43 = .ok (.bastore, 1) := by decide +kernel
theorem dX8_saveSnapshot_44 : decode cX8_saveSnapshot 44 = .ok (.iconst 1, 1) := by decide +kernel
theorem dX8_saveSnapshot_45 : decode cX8_saveSnapshot 45 = .ok (.ireturn, 1) := by decide +kernel
theorem dX8_restoreSnapshot_0 : decode cX8_restoreSnapshot 0 = .ok (.aload_n 0, 1) := by decide +kernel
theorem dX8_restoreSnapshot_1 : decode cX8_restoreSnapshot 1 = .ok (.iconst 0, 1) := by decide +kernel
theorem dX8_restoreSnapshot_2 : decode cX8_restoreSnapshot 2 = .ok (.putfield 55, 3) := by decide +kernel
theorem dX8_restoreSnapshot_5 : decode cX8_restoreSnapshot 5 = .ok (.iload_n 1, 1) := by decide +kernel
theorem dX8_restoreSnapshot_6 : decode cX8_restoreSnapshot 6 = .ok (.iconst 0, 1) := by decide +kernel
theorem dX8_restoreSnapshot_7 : decode cX8_restoreSnapshot 7 = .ok (.iconst 1, 1) := by decide +kernel
theorem dX8_restoreSnapshot_8 : decode cX8_restoreSnapshot 8 = .ok (.invokestatic 82, 3) := by decide +kernel
theorem dX8_restoreSnapshot_11 : decode cX8_restoreSnapshot 11 = .ok (.ifCond .eq 12, 3) := by decide +kernel
theorem dX8_restoreSnapshot_14 : decode cX8_restoreSnapshot 14 = .ok (.aload_n 0, 1) := by decide +kernel
theorem dX8_restoreSnapshot_15 : decode cX8_restoreSnapshot 15 = .ok (.getfield 42, 3) := by decide +kernel
theorem dX8_restoreSnapshot_18 : decode cX8_restoreSnapshot 18 = .ok (.iload_n 1, 1) := by decide +kernel
theorem dX8_restoreSnapshot_19 : decode cX8_restoreSnapshot 19 = .ok (.baload, 1) := by decide +kernel
theorem dX8_restoreSnapshot_20 : decode cX8_restoreSnapshot 20 = .ok (.ifCond .ne 5, 3) := by decide +kernel
theorem dX8_restoreSnapshot_23 : decode cX8_restoreSnapshot 23 = .ok (.iconst 0, 1) := by decide +kernel
theorem dX8_restoreSnapshot_24 : decode cX8_restoreSnapshot 24 = .ok (.ireturn, 1) := by decide +kernel
theorem dX8_restoreSnapshot_25 : decode cX8_restoreSnapshot 25 = .ok (.aload_n 0, 1) := by decide +kernel
theorem dX8_restoreSnapshot_26 : decode cX8_restoreSnapshot 26 = .ok (.getfield 36, 3) := by decide +kernel
theorem dX8_restoreSnapshot_29 : decode cX8_restoreSnapshot 29 = .ok (.aload_n 0, 1) := by decide +kernel
theorem dX8_restoreSnapshot_30 : decode cX8_restoreSnapshot 30 = .ok (.getfield 39, 3) := by decide +kernel
theorem dX8_restoreSnapshot_33 : decode cX8_restoreSnapshot 33 = .ok (.iload_n 1, 1) := by decide +kernel
theorem dX8_restoreSnapshot_34 : decode cX8_restoreSnapshot 34 = .ok (.aload_n 0, 1) := by decide +kernel
theorem dX8_restoreSnapshot_35 : decode cX8_restoreSnapshot 35 = .ok (.getfield 23, 3) := by decide +kernel
theorem dX8_restoreSnapshot_38 : decode cX8_restoreSnapshot 38 = .ok (.aload_n 0, 1) := by decide +kernel
theorem dX8_restoreSnapshot_39 : decode cX8_restoreSnapshot 39 = .ok (.getfield 26, 3) := by decide +kernel
theorem dX8_restoreSnapshot_42 : decode cX8_restoreSnapshot 42 = .ok (.iconst 0, 1) := by decide +kernel
theorem dX8_restoreSnapshot_43 : decode cX8_restoreSnapshot 43 = .ok (.invokestatic 202, 3) := by decide +kernel
theorem dX8_restoreSnapshot_46 : decode cX8_restoreSnapshot 46 = .ok (.aload_n 0, 1) := by decide +kernel
theorem dX8_restoreSnapshot_47 : decode cX8_restoreSnapshot 47 = .ok (.iconst 0, 1) := by decide +kernel
theorem dX8_restoreSnapshot_48 : decode cX8_restoreSnapshot 48 = .ok (.putfield 196, 3) := by decide +kernel
theorem dX8_restoreSnapshot_51 : decode cX8_restoreSnapshot 51 = .ok (.iconst 1, 1) := by decide +kernel
theorem dX8_restoreSnapshot_52 : decode cX8_restoreSnapshot 52 = .ok (.ireturn, 1) := by decide +kernel
theorem dJ6_bitCount_0f7a4_0 : decode cJ6_bitCount_0f7a4 0 = .ok (.iload_n 0, 1) := by decide +kernel
theorem dJ6_bitCount_0f7a4_1 : decode cJ6_bitCount_0f7a4 1 = .ok (.iload_n 0, 1) := by decide +kernel
theorem dJ6_bitCount_0f7a4_2 : decode cJ6_bitCount_0f7a4 2 = .ok (.iconst 1, 1) := by decide +kernel
theorem dJ6_bitCount_0f7a4_3 : decode cJ6_bitCount_0f7a4 3 = .ok (.iushr, 1) := by decide +kernel
theorem dJ6_bitCount_0f7a4_4 : decode cJ6_bitCount_0f7a4 4 = .ok (.ldc_w 265, 3) := by decide +kernel
theorem dJ6_bitCount_0f7a4_7 : decode cJ6_bitCount_0f7a4 7 = .ok (.iand, 1) := by decide +kernel
theorem dJ6_bitCount_0f7a4_8 : decode cJ6_bitCount_0f7a4 8 = .ok (.isub, 1) := by decide +kernel
theorem dJ6_bitCount_0f7a4_9 : decode cJ6_bitCount_0f7a4 9 = .ok (.istore_n 0, 1) := by decide +kernel
theorem dJ6_bitCount_0f7a4_10 : decode cJ6_bitCount_0f7a4 10 = .ok (.iload_n 0, 1) := by decide +kernel
theorem dJ6_bitCount_0f7a4_11 : decode cJ6_bitCount_0f7a4 11 = .ok (.ldc_w 266, 3) := by decide +kernel
theorem dJ6_bitCount_0f7a4_14 : decode cJ6_bitCount_0f7a4 14 = .ok (.iand, 1) := by decide +kernel
theorem dJ6_bitCount_0f7a4_15 : decode cJ6_bitCount_0f7a4 15 = .ok (.iload_n 0, 1) := by decide +kernel
theorem dJ6_bitCount_0f7a4_16 : decode cJ6_bitCount_0f7a4 16 = .ok (.iconst 2, 1) := by decide +kernel
theorem dJ6_bitCount_0f7a4_17 : decode cJ6_bitCount_0f7a4 17 = .ok (.iushr, 1) := by decide +kernel
theorem dJ6_bitCount_0f7a4_18 : decode cJ6_bitCount_0f7a4 18 = .ok (.ldc_w 266, 3) := by decide +kernel
theorem dJ6_bitCount_0f7a4_21 : decode cJ6_bitCount_0f7a4 21 = .ok (.iand, 1) := by decide +kernel
theorem dJ6_bitCount_0f7a4_22 : decode cJ6_bitCount_0f7a4 22 = .ok (.iadd, 1) := by decide +kernel
theorem dJ6_bitCount_0f7a4_23 : decode cJ6_bitCount_0f7a4 23 = .ok (.istore_n 0, 1) := by decide +kernel
theorem dJ6_bitCount_0f7a4_24 : decode cJ6_bitCount_0f7a4 24 = .ok (.iload_n 0, 1) := by decide +kernel
theorem dJ6_bitCount_0f7a4_25 : decode cJ6_bitCount_0f7a4 25 = .ok (.iload_n 0, 1) := by decide +kernel
theorem dJ6_bitCount_0f7a4_26 : decode cJ6_bitCount_0f7a4 26 = .ok (.iconst 4, 1) := by decide +kernel
theorem dJ6_bitCount_0f7a4_27 : decode cJ6_bitCount_0f7a4 27 = .ok (.iushr, 1) := by decide +kernel
theorem dJ6_bitCount_0f7a4_28 : decode cJ6_bitCount_0f7a4 28 = .ok (.iadd, 1) := by decide +kernel
theorem dJ6_bitCount_0f7a4_29 : decode cJ6_bitCount_0f7a4 29 = .ok (.ldc_w 267, 3) := by decide +kernel
theorem dJ6_bitCount_0f7a4_32 : decode cJ6_bitCount_0f7a4 32 = .ok (.iand, 1) := by decide +kernel
theorem dJ6_bitCount_0f7a4_33 : decode cJ6_bitCount_0f7a4 33 = .ok (.istore_n 0, 1) := by decide +kernel
theorem dJ6_bitCount_0f7a4_34 : decode cJ6_bitCount_0f7a4 34 = .ok (.iload_n 0, 1) := by decide +kernel
theorem dJ6_bitCount_0f7a4_35 : decode cJ6_bitCount_0f7a4 35 = .ok (.iload_n 0, 1) := by decide +kernel
theorem dJ6_bitCount_0f7a4_36 : decode cJ6_bitCount_0f7a4 36 = .ok (.bipush 8, 2) := by decide +kernel
theorem dJ6_bitCount_0f7a4_38 : decode cJ6_bitCount_0f7a4 38 = .ok (.iushr, 1) := by decide +kernel
theorem dJ6_bitCount_0f7a4_39 : decode cJ6_bitCount_0f7a4 39 = .ok (.iadd, 1) := by decide +kernel
theorem dJ6_bitCount_0f7a4_40 : decode cJ6_bitCount_0f7a4 40 = .ok (.istore_n 0, 1) := by decide +kernel
theorem dJ6_bitCount_0f7a4_41 : decode cJ6_bitCount_0f7a4 41 = .ok (.iload_n 0, 1) := by decide +kernel
theorem dJ6_bitCount_0f7a4_42 : decode cJ6_bitCount_0f7a4 42 = .ok (.iload_n 0, 1) := by decide +kernel
theorem dJ6_bitCount_0f7a4_43 : decode cJ6_bitCount_0f7a4 43 = .ok (.bipush 16, 2) := by decide +kernel
theorem dJ6_bitCount_0f7a4_45 : decode cJ6_bitCount_0f7a4 45 = .ok (.iushr, 1) := by decide +kernel
theorem dJ6_bitCount_0f7a4_46 : decode cJ6_bitCount_0f7a4 46 = .ok (.iadd, 1) := by decide +kernel
theorem dJ6_bitCount_0f7a4_47 : decode cJ6_bitCount_0f7a4 47 = .ok (.istore_n 0, 1) := by decide +kernel
theorem dJ6_bitCount_0f7a4_48 : decode cJ6_bitCount_0f7a4 48 = .ok (.iload_n 0, 1) := by decide +kernel
theorem dJ6_bitCount_0f7a4_49 : decode cJ6_bitCount_0f7a4 49 = .ok (.bipush 63, 2) := by decide +kernel
theorem dJ6_bitCount_0f7a4_51 : decode cJ6_bitCount_0f7a4 51 = .ok (.iand, 1) := by decide +kernel
theorem dJ6_bitCount_0f7a4_52 : decode cJ6_bitCount_0f7a4 52 = .ok (.ireturn, 1) := by decide +kernel
theorem dJ9_floorMod_7cf53_0 : decode cJ9_floorMod_7cf53 0 = .ok (.iload_n 0, 1) := by decide +kernel
theorem dJ9_floorMod_7cf53_1 : decode cJ9_floorMod_7cf53 1 = .ok (.iload_n 1, 1) := by decide +kernel
theorem dJ9_floorMod_7cf53_2 : decode cJ9_floorMod_7cf53 2 = .ok (.irem, 1) := by decide +kernel
theorem dJ9_floorMod_7cf53_3 : decode cJ9_floorMod_7cf53 3 = .ok (.istore_n 2, 1) := by decide +kernel
theorem dJ9_floorMod_7cf53_4 : decode cJ9_floorMod_7cf53 4 = .ok (.iload_n 0, 1) := by decide +kernel
theorem dJ9_floorMod_7cf53_5 : decode cJ9_floorMod_7cf53 5 = .ok (.iload_n 1, 1) := by decide +kernel
theorem dJ9_floorMod_7cf53_6 : decode cJ9_floorMod_7cf53 6 = .ok (.ixor, 1) := by decide +kernel
theorem dJ9_floorMod_7cf53_7 : decode cJ9_floorMod_7cf53 7 = .ok (.ifCond .ge 11, 3) := by decide +kernel
theorem dJ9_floorMod_7cf53_10 : decode cJ9_floorMod_7cf53 10 = .ok (.iload_n 2, 1) := by decide +kernel
theorem dJ9_floorMod_7cf53_11 : decode cJ9_floorMod_7cf53 11 = .ok (.ifCond .eq 7, 3) := by decide +kernel
theorem dJ9_floorMod_7cf53_14 : decode cJ9_floorMod_7cf53 14 = .ok (.iload_n 2, 1) := by decide +kernel
theorem dJ9_floorMod_7cf53_15 : decode cJ9_floorMod_7cf53 15 = .ok (.iload_n 1, 1) := by decide +kernel
theorem dJ9_floorMod_7cf53_16 : decode cJ9_floorMod_7cf53 16 = .ok (.iadd, 1) := by decide +kernel
theorem dJ9_floorMod_7cf53_17 : decode cJ9_floorMod_7cf53 17 = .ok (.ireturn, 1) := by decide +kernel
theorem dJ9_floorMod_7cf53_18 : decode cJ9_floorMod_7cf53 18 = .ok (.iload_n 2, 1) := by decide +kernel
theorem dJ9_floorMod_7cf53_19 : decode cJ9_floorMod_7cf53 19 = .ok (.ireturn, 1) := by decide +kernel
theorem dJ9_max_7cf53_0 : decode cJ9_max_7cf53 0 = .ok (.iload_n 0, 1) := by decide +kernel
theorem dJ9_max_7cf53_1 : decode cJ9_max_7cf53 1 = .ok (.iload_n 1, 1) := by decide +kernel
theorem dJ9_max_7cf53_2 : decode cJ9_max_7cf53 2 = .ok (.if_icmp .lt 7, 3) := by decide +kernel
theorem dJ9_max_7cf53_5 : decode cJ9_max_7cf53 5 = .ok (.iload_n 0, 1) := by decide +kernel
theorem dJ9_max_7cf53_6 : decode cJ9_max_7cf53 6 = .ok (.goto 4, 3) := by decide +kernel
theorem dJ9_max_7cf53_9 : decode cJ9_max_7cf53 9 = .ok (.iload_n 1, 1) := by decide +kernel
theorem dJ9_max_7cf53_10 : decode cJ9_max_7cf53 10 = .ok (.ireturn, 1) := by decide +kernel
theorem dJ9_min_7cf53_0 : decode cJ9_min_7cf53 0 = .ok (.iload_n 0, 1) := by decide +kernel
theorem dJ9_min_7cf53_1 : decode cJ9_min_7cf53 1 = .ok (.iload_n 1, 1) := by decide +kernel
theorem dJ9_min_7cf53_2 : decode cJ9_min_7cf53 2 = .ok (.if_icmp .gt 7, 3) := by decide +kernel
theorem dJ9_min_7cf53_5 : decode cJ9_min_7cf53 5 = .ok (.iload_n 0, 1) := by decide +kernel
theorem dJ9_min_7cf53_6 : decode cJ9_min_7cf53 6 = .ok (.goto 4, 3) := by decide +kernel
theorem dJ9_min_7cf53_9 : decode cJ9_min_7cf53 9 = .ok (.iload_n 1, 1) := by decide +kernel
theorem dJ9_min_7cf53_10 : decode cJ9_min_7cf53 10 = .ok (.ireturn, 1) := by decide +kernel
theorem dJ0_length_8abf5_0 : decode cJ0_length_8abf5 0 = .ok (.aload_n 0, 1) := by decide +kernel
theorem dJ0_length_8abf5_1 : decode cJ0_length_8abf5 1 = .ok (.getfield 9, 3) := by decide +kernel
theorem dJ0_length_8abf5_4 : decode cJ0_length_8abf5 4 = .ok (.arraylength, 1) := by decide +kernel
theorem dJ0_length_8abf5_5 : decode cJ0_length_8abf5 5 = .ok (.aload_n 0, 1) := by decide +kernel
theorem dJ0_length_8abf5_6 : decode cJ0_length_8abf5 6 = .ok (.invokevirtual 335, 3) := by decide +kernel
theorem dJ0_length_8abf5_9 : decode cJ0_length_8abf5 9 = .ok (.ishr, 1) := by decide +kernel
theorem dJ0_length_8abf5_10 : decode cJ0_length_8abf5 10 = .ok (.ireturn, 1) := by decide +kernel
theorem dJ0_charAt_5068e_0 : decode cJ0_charAt_5068e 0 = .ok (.aload_n 0, 1) := by decide +kernel
theorem dJ0_charAt_5068e_1 : decode cJ0_charAt_5068e 1 = .ok (.invokevirtual 492, 3) := by decide +kernel
theorem dJ0_charAt_5068e_4 : decode cJ0_charAt_5068e 4 = .ok (.ifCond .eq 12, 3) := by decide +kernel
theorem dJ0_charAt_5068e_7 : decode cJ0_charAt_5068e 7 = .ok (.aload_n 0, 1) := by decide +kernel
theorem dJ0_charAt_5068e_8 : decode cJ0_charAt_5068e 8 = .ok (.getfield 9, 3) := by decide +kernel
theorem dJ0_charAt_5068e_11 : decode cJ0_charAt_5068e 11 = .ok (.iload_n 1, 1) := by decide +kernel
theorem dJ0_charAt_5068e_12 : decode cJ0_charAt_5068e 12 = .ok (.invokestatic 495, 3) := by decide +kernel
theorem dJ0_charAt_5068e_15 : decode cJ0_charAt_5068e 15 = .ok (.ireturn, 1) := by decide +kernel
theorem dJ0_charAt_5068e_16 : decode cJ0_charAt_5068e 16 = .ok (.aload_n 0, 1) := by decide +kernel
theorem dJ0_charAt_5068e_17 : decode cJ0_charAt_5068e 17 = .ok (.getfield 9, 3) := by decide +kernel
theorem dJ0_charAt_5068e_20 : decode cJ0_charAt_5068e 20 = .ok (.iload_n 1, 1) := by decide +kernel
theorem dJ0_charAt_5068e_21 : decode cJ0_charAt_5068e 21 = .ok (.invokestatic 498, 3) := by decide +kernel
theorem dJ0_charAt_5068e_24 : decode cJ0_charAt_5068e 24 = .ok (.ireturn, 1) := by decide +kernel
theorem dJ0_coder_7d493_0 : decode cJ0_coder_7d493 0 = .ok (.getstatic 38, 3) := by decide +kernel
theorem dJ0_coder_7d493_3 : decode cJ0_coder_7d493 3 = .ok (.ifCond .eq 10, 3) := by decide +kernel
theorem dJ0_coder_7d493_6 : decode cJ0_coder_7d493 6 = .ok (.aload_n 0, 1) := by decide +kernel
theorem dJ0_coder_7d493_7 : decode cJ0_coder_7d493 7 = .ok (.getfield 15, 3) := by decide +kernel
theorem dJ0_coder_7d493_10 : decode cJ0_coder_7d493 10 = .ok (.goto 4, 3) := by decide +kernel
theorem dJ0_coder_7d493_13 : decode cJ0_coder_7d493 13 = .ok (.iconst 1, 1) := by decide +kernel
theorem dJ0_coder_7d493_14 : decode cJ0_coder_7d493 14 = .ok (.ireturn, 1) := by decide +kernel
theorem dJ0_isLatin1_aae02_0 : decode cJ0_isLatin1_aae02 0 = .ok (.getstatic 38, 3) := by decide +kernel
theorem dJ0_isLatin1_aae02_3 : decode cJ0_isLatin1_aae02 3 = .ok (.ifCond .eq 14, 3) := by decide +kernel
theorem dJ0_isLatin1_aae02_6 : decode cJ0_isLatin1_aae02 6 = .ok (.aload_n 0, 1) := by decide +kernel
theorem dJ0_isLatin1_aae02_7 : decode cJ0_isLatin1_aae02 7 = .ok (.getfield 15, 3) := by decide +kernel
theorem dJ0_isLatin1_aae02_10 : decode cJ0_isLatin1_aae02 10 = .ok (.ifCond .ne 7, 3) := by decide +kernel
theorem dJ0_isLatin1_aae02_13 : decode cJ0_isLatin1_aae02 13 = .ok (.iconst 1, 1) := by decide +kernel
theorem dJ0_isLatin1_aae02_14 : decode cJ0_isLatin1_aae02 14 = .ok (.goto 4, 3) := by decide +kernel
theorem dJ0_isLatin1_aae02_17 : decode cJ0_isLatin1_aae02 17 = .ok (.iconst 0, 1) := by decide +kernel
theorem dJ0_isLatin1_aae02_18 : decode cJ0_isLatin1_aae02 18 = .ok (.ireturn, 1) := by decide +kernel
theorem dJ0_checkIndex_df160_0 : decode cJ0_checkIndex_df160 0 = .ok (.iload_n 0, 1) := by decide +kernel
theorem dJ0_checkIndex_df160_1 : decode cJ0_checkIndex_df160 1 = .ok (.iload_n 1, 1) := by decide +kernel
theorem dJ0_checkIndex_df160_2 : decode cJ0_checkIndex_df160 2 = .ok (.getstatic 1053, 3) := by decide +kernel
theorem dJ0_checkIndex_df160_5 : decode cJ0_checkIndex_df160 5 = .ok (.invokestatic 1059, 3) := by decide +kernel
theorem dJ0_checkIndex_df160_8 : decode cJ0_checkIndex_df160 8 = .ok (.pop, 1) := by decide +kernel
theorem dJ0_checkIndex_df160_9 : decode cJ0_checkIndex_df160 9 = .ok (.return_, 1) := by decide +kernel
theorem dJ1_charAt_3b067_0 : decode cJ1_charAt_3b067 0 = .ok (.iload_n 1, 1) := by decide +kernel
theorem dJ1_charAt_3b067_1 : decode cJ1_charAt_3b067 1 = .ok (.aload_n 0, 1) := by decide +kernel
theorem dJ1_charAt_3b067_2 : decode cJ1_charAt_3b067 2 = .ok (.arraylength, 1) := by decide +kernel
theorem dJ1_charAt_3b067_3 : decode cJ1_charAt_3b067 3 = .ok (.invokestatic 9, 3) := by decide +kernel
theorem dJ1_charAt_3b067_6 : decode cJ1_charAt_3b067 6 = .ok (.aload_n 0, 1) := by decide +kernel
theorem dJ1_charAt_3b067_7 : decode cJ1_charAt_3b067 7 = .ok (.iload_n 1, 1) := by decide +kernel
theorem dJ1_charAt_3b067_8 : decode cJ1_charAt_3b067 8 = .ok (.baload, 1) := by decide +kernel
theorem dJ1_charAt_3b067_9 : decode cJ1_charAt_3b067 9 = .ok (.sipush 255, 3) := by decide +kernel
theorem dJ1_charAt_3b067_12 : decode cJ1_charAt_3b067 12 = .ok (.iand, 1) := by decide +kernel
theorem dJ1_charAt_3b067_13 : decode cJ1_charAt_3b067 13 = .ok (.i2c, 1) := by decide +kernel
theorem dJ1_charAt_3b067_14 : decode cJ1_charAt_3b067 14 = .ok (.ireturn, 1) := by decide +kernel
theorem dJ2_getChar_3b067_0 : decode cJ2_getChar_3b067 0 = .ok (.getstatic 44, 3) := by decide +kernel
theorem dJ2_getChar_3b067_3 : decode cJ2_getChar_3b067 3 = .ok (.ifCond .ne 25, 3) := by decide +kernel
theorem dJ2_getChar_3b067_6 : decode cJ2_getChar_3b067 6 = .ok (.iload_n 1, 1) := by decide +kernel
theorem dJ2_getChar_3b067_7 : decode cJ2_getChar_3b067 7 = .ok (.ifCond .lt 11, 3) := by decide +kernel
theorem dJ2_getChar_3b067_10 : decode cJ2_getChar_3b067 10 = .ok (.iload_n 1, 1) := by decide +kernel
theorem dJ2_getChar_3b067_11 : decode cJ2_getChar_3b067 11 = .ok (.aload_n 0, 1) := by decide +kernel
theorem dJ2_getChar_3b067_12 : decode cJ2_getChar_3b067 12 = .ok (.invokestatic 48, 3) := by decide +kernel
theorem dJ2_getChar_3b067_15 : decode cJ2_getChar_3b067 15 = .ok (.if_icmp .lt 13, 3) := by decide +kernel
theorem dJ2_getChar_3b067_18 : decode cJ2_getChar_3b067 18 = .ok (.new 52, 3) := by decide +kernel
theorem dJ2_getChar_3b067_21 : decode cJ2_getChar_3b067 21 = .ok (.dup, 1) := by decide +kernel
theorem dJ2_getChar_3b067_22 : decode cJ2_getChar_3b067 22 = .ok (.ldc 54, 2) := by decide +kernel
theorem dJ2_getChar_3b067_24 : decode cJ2_getChar_3b067 24 = .ok (.invokespecial 56, 3) := by decide +kernel
theorem dJ2_getChar_3b067_27 : decode cJ2_getChar_3b067 27 = .ok (.athrow, 1) := by decide +kernel
theorem dJ2_getChar_3b067_28 : decode cJ2_getChar_3b067 28 = .ok (.iload_n 1, 1) := by decide +kernel
theorem dJ2_getChar_3b067_29 : decode cJ2_getChar_3b067 29 = .ok (.iconst 1, 1) := by decide +kernel
theorem dJ2_getChar_3b067_30 : decode cJ2_getChar_3b067 30 = .ok (.ishl, 1) := by decide +kernel
theorem dJ2_getChar_3b067_31 : decode cJ2_getChar_3b067 31 = .ok (.istore_n 1, 1) := by decide +kernel
theorem dJ2_getChar_3b067_32 : decode cJ2_getChar_3b067 32 = .ok (.aload_n 0, 1) := by decide +kernel
theorem dJ2_getChar_3b067_33 : decode cJ2_getChar_3b067 33 = .ok (.iload_n 1, 1) := by decide +kernel
theorem dJ2_getChar_3b067_34 : decode cJ2_getChar_3b067 34 = .ok (.iinc 1 1, 3) := by decide +kernel
theorem dJ2_getChar_3b067_37 : decode cJ2_getChar_3b067 37 = .ok (.baload, 1) := by decide +kernel
theorem dJ2_getChar_3b067_38 : decode cJ2_getChar_3b067 38 = .ok (.sipush 255, 3) := by decide +kernel
theorem dJ2_getChar_3b067_41 : decode cJ2_getChar_3b067 41 = .ok (.iand, 1) := by decide +kernel
theorem dJ2_getChar_3b067_42 : decode cJ2_getChar_3b067 42 = .ok (.getstatic 59, 3) := by decide +kernel
theorem dJ2_getChar_3b067_45 : decode cJ2_getChar_3b067 45 = .ok (.ishl, 1) := by decide +kernel
theorem dJ2_getChar_3b067_46 : decode cJ2_getChar_3b067 46 = .ok (.aload_n 0, 1) := by decide +kernel
theorem dJ2_getChar_3b067_47 : decode cJ2_getChar_3b067 47 = .ok (.iload_n 1, 1) := by decide +kernel
theorem dJ2_getChar_3b067_48 : decode cJ2_getChar_3b067 48 = .ok (.baload, 1) := by decide +kernel
theorem dJ2_getChar_3b067_49 : decode cJ2_getChar_3b067 49 = .ok (.sipush 255, 3) := by decide +kernel
theorem dJ2_getChar_3b067_52 : decode cJ2_getChar_3b067 52 = .ok (.iand, 1) := by decide +kernel
theorem dJ2_getChar_3b067_53 : decode cJ2_getChar_3b067 53 = .ok (.getstatic 63, 3) := by decide +kernel
theorem dJ2_getChar_3b067_56 : decode cJ2_getChar_3b067 56 = .ok (.ishl, 1) := by decide +kernel
theorem dJ2_getChar_3b067_57 : decode cJ2_getChar_3b067 57 = .ok (.ior, 1) := by decide +kernel
theorem dJ2_getChar_3b067_58 : decode cJ2_getChar_3b067 58 = .ok (.i2c, 1) := by decide +kernel
theorem dJ2_getChar_3b067_59 : decode cJ2_getChar_3b067 59 = .ok (.ireturn, 1) := by decide +kernel
theorem dJ2_length_9d52b_0 : decode cJ2_length_9d52b 0 = .ok (.aload_n 0, 1) := by decide +kernel
theorem dJ2_length_9d52b_1 : decode cJ2_length_9d52b 1 = .ok (.arraylength, 1) := by decide +kernel
theorem dJ2_length_9d52b_2 : decode cJ2_length_9d52b 2 = .ok (.iconst 1, 1) := by decide +kernel
theorem dJ2_length_9d52b_3 : decode cJ2_length_9d52b 3 = .ok (.ishr, 1) := by decide +kernel
theorem dJ2_length_9d52b_4 : decode cJ2_length_9d52b 4 = .ok (.ireturn, 1) := by decide +kernel
theorem dJ2_charAt_3b067_0 : decode cJ2_charAt_3b067 0 = .ok (.iload_n 1, 1) := by decide +kernel
theorem dJ2_charAt_3b067_1 : decode cJ2_charAt_3b067 1 = .ok (.aload_n 0, 1) := by decide +kernel
theorem dJ2_charAt_3b067_2 : decode cJ2_charAt_3b067 2 = .ok (.invokestatic 67, 3) := by decide +kernel
theorem dJ2_charAt_3b067_5 : decode cJ2_charAt_3b067 5 = .ok (.aload_n 0, 1) := by decide +kernel
theorem dJ2_charAt_3b067_6 : decode cJ2_charAt_3b067 6 = .ok (.iload_n 1, 1) := by decide +kernel
theorem dJ2_charAt_3b067_7 : decode cJ2_charAt_3b067 7 = .ok (.invokestatic 71, 3) := by decide +kernel
theorem dJ2_charAt_3b067_10 : decode cJ2_charAt_3b067 10 = .ok (.ireturn, 1) := by decide +kernel
theorem dJ2_checkIndex_2214a_0 : decode cJ2_checkIndex_2214a 0 = .ok (.iload_n 0, 1) := by decide +kernel
theorem dJ2_checkIndex_2214a_1 : decode cJ2_checkIndex_2214a 1 = .ok (.aload_n 1, 1) := by decide +kernel
theorem dJ2_checkIndex_2214a_2 : decode cJ2_checkIndex_2214a 2 = .ok (.invokestatic 48, 3) := by decide +kernel
theorem dJ2_checkIndex_2214a_5 : decode cJ2_checkIndex_2214a 5 = .ok (.invokestatic 414, 3) := by decide +kernel
theorem dJ2_checkIndex_2214a_8 : decode cJ2_checkIndex_2214a 8 = .ok (.return_, 1) := by decide +kernel
theorem dJ3_checkIndex_8e157_0 : decode cJ3_checkIndex_8e157 0 = .ok (.iload_n 0, 1) := by decide +kernel
theorem dJ3_checkIndex_8e157_1 : decode cJ3_checkIndex_8e157 1 = .ok (.ifCond .lt 8, 3) := by decide +kernel
theorem dJ3_checkIndex_8e157_4 : decode cJ3_checkIndex_8e157 4 = .ok (.iload_n 0, 1) := by decide +kernel
theorem dJ3_checkIndex_8e157_5 : decode cJ3_checkIndex_8e157 5 = .ok (.iload_n 1, 1) := by decide +kernel
theorem dJ3_checkIndex_8e157_6 : decode cJ3_checkIndex_8e157 6 = .ok (.if_icmp .lt 10, 3) := by decide +kernel
theorem dJ3_checkIndex_8e157_9 : decode cJ3_checkIndex_8e157 9 = .ok (.aload_n 2, 1) := by decide +kernel
theorem dJ3_checkIndex_8e157_10 : decode cJ3_checkIndex_8e157 10 = .ok (.iload_n 0, 1) := by decide +kernel
theorem dJ3_checkIndex_8e157_11 : decode cJ3_checkIndex_8e157 11 = .ok (.iload_n 1, 1) := by decide +kernel
theorem dJ3_checkIndex_8e157_12 : decode cJ3_checkIndex_8e157 12 = .ok (.invokestatic 95, 3) := by decide +kernel
theorem dJ3_checkIndex_8e157_15 : decode cJ3_checkIndex_8e157 15 = .ok (.athrow, 1) := by decide +kernel
theorem dJ3_checkIndex_8e157_16 : decode cJ3_checkIndex_8e157 16 = .ok (.iload_n 0, 1) := by decide +kernel
theorem dJ3_checkIndex_8e157_17 : decode cJ3_checkIndex_8e157 17 = .ok (.ireturn, 1) := by decide +kernel
theorem dL_parse_0 : decode cL_parse 0 = .ok (.aload_n 2, 1) := by decide +kernel
theorem dL_parse_1 : decode cL_parse 1 = .ok (.iconst 0, 1) := by decide +kernel
theorem dL_parse_2 : decode cL_parse 2 = .ok (.aload_n 0, 1) := by decide +kernel
theorem dL_parse_3 : decode cL_parse 3 = .ok (.iload_n 1, 1) := by decide +kernel
theorem dL_parse_4 : decode cL_parse 4 = .ok (.invokevirtual 7, 3) := by decide +kernel
theorem dL_parse_7 : decode cL_parse 7 = .ok (.i2l, 1) := by decide +kernel
theorem dL_parse_8 : decode cL_parse 8 = .ok (.lastore, 1) := by decide +kernel
theorem dL_parse_9 : decode cL_parse 9 = .ok (.goto 6, 3) := by decide +kernel
theorem dL_parse_12 : decode cL_parse 12 = .ok (.astore_n 3, 1) := by decide +kernel
theorem dL_parse_13 : decode cL_parse 13 = .ok (.iconst 1, 1) := by decide +kernel
theorem dL_parse_14 : decode cL_parse 14 = .ok (.ireturn, 1) := by decide +kernel
theorem dL_parse_15 : decode cL_parse 15 = .ok (.iconst 0, 1) := by decide +kernel
theorem dL_parse_16 : decode cL_parse 16 = .ok (.ireturn, 1) := by decide +kernel
theorem dL_size_0 : decode cL_size 0 = .ok (.aload_n 2, 1) := by decide +kernel
theorem dL_size_1 : decode cL_size 1 = .ok (.iconst 0, 1) := by decide +kernel
theorem dL_size_2 : decode cL_size 2 = .ok (.aload_n 0, 1) := by decide +kernel
theorem dL_size_3 : decode cL_size 3 = .ok (.iload_n 1, 1) := by decide +kernel
theorem dL_size_4 : decode cL_size 4 = .ok (.invokevirtual 15, 3) := by decide +kernel
theorem dL_size_7 : decode cL_size 7 = .ok (.i2l, 1) := by decide +kernel
theorem dL_size_8 : decode cL_size 8 = .ok (.lastore, 1) := by decide +kernel
theorem dL_size_9 : decode cL_size 9 = .ok (.goto 6, 3) := by decide +kernel
theorem dL_size_12 : decode cL_size 12 = .ok (.astore_n 3, 1) := by decide +kernel
theorem dL_size_13 : decode cL_size 13 = .ok (.iconst 1, 1) := by decide +kernel
theorem dL_size_14 : decode cL_size 14 = .ok (.ireturn, 1) := by decide +kernel
theorem dL_size_15 : decode cL_size 15 = .ok (.iconst 0, 1) := by decide +kernel
theorem dL_size_16 : decode cL_size 16 = .ok (.ireturn, 1) := by decide +kernel
theorem dL_deviceAt_0 : decode cL_deviceAt 0 = .ok (.aload_n 2, 1) := by decide +kernel
theorem dL_deviceAt_1 : decode cL_deviceAt 1 = .ok (.iconst 0, 1) := by decide +kernel
theorem dL_deviceAt_2 : decode cL_deviceAt 2 = .ok (.aload_n 0, 1) := by decide +kernel
theorem dL_deviceAt_3 : decode cL_deviceAt 3 = .ok (.iload_n 1, 1) := by decide +kernel
theorem dL_deviceAt_4 : decode cL_deviceAt 4 = .ok (.invokevirtual 18, 3) := by decide +kernel
theorem dL_deviceAt_7 : decode cL_deviceAt 7 = .ok (.i2l, 1) := by decide +kernel
theorem dL_deviceAt_8 : decode cL_deviceAt 8 = .ok (.lastore, 1) := by decide +kernel
theorem dL_deviceAt_9 : decode cL_deviceAt 9 = .ok (.goto 6, 3) := by decide +kernel
theorem dL_deviceAt_12 : decode cL_deviceAt 12 = .ok (.astore_n 3, 1) := by decide +kernel
theorem dL_deviceAt_13 : decode cL_deviceAt 13 = .ok (.iconst 1, 1) := by decide +kernel
theorem dL_deviceAt_14 : decode cL_deviceAt 14 = .ok (.ireturn, 1) := by decide +kernel
theorem dL_deviceAt_15 : decode cL_deviceAt 15 = .ok (.iconst 0, 1) := by decide +kernel
theorem dL_deviceAt_16 : decode cL_deviceAt 16 = .ok (.ireturn, 1) := by decide +kernel
theorem dL_device_0 : decode cL_device 0 = .ok (.aload_n 3, 1) := by decide +kernel
theorem dL_device_1 : decode cL_device 1 = .ok (.iconst 0, 1) := by decide +kernel
theorem dL_device_2 : decode cL_device 2 = .ok (.aload_n 0, 1) := by decide +kernel
theorem dL_device_3 : decode cL_device 3 = .ok (.iload_n 1, 1) := by decide +kernel
theorem dL_device_4 : decode cL_device 4 = .ok (.iload_n 2, 1) := by decide +kernel
theorem dL_device_5 : decode cL_device 5 = .ok (.invokevirtual 23, 3) := by decide +kernel
theorem dL_device_8 : decode cL_device 8 = .ok (.i2l, 1) := by decide +kernel
theorem dL_device_9 : decode cL_device 9 = .ok (.lastore, 1) := by decide +kernel
theorem dL_device_10 : decode cL_device 10 = .ok (.goto 11, 3) := by decide +kernel
theorem dL_device_13 : decode cL_device 13 = .ok (.astore 4, 2) := by decide +kernel
theorem dL_device_15 : decode cL_device 15 = .ok (.iconst 1, 1) := by decide +kernel
theorem dL_device_16 : decode cL_device 16 = .ok (.ireturn, 1) := by decide +kernel
theorem dL_device_17 : decode cL_device 17 = .ok (.astore 4, 2) := by decide +kernel
theorem dL_device_19 : decode cL_device 19 = .ok (.iconst 2, 1) := by decide +kernel
theorem dL_device_20 : decode cL_device 20 = .ok (.ireturn, 1) := by decide +kernel
theorem dL_device_21 : decode cL_device 21 = .ok (.iconst 0, 1) := by decide +kernel
theorem dL_device_22 : decode cL_device 22 = .ok (.ireturn, 1) := by decide +kernel
theorem dL_stream_0 : decode cL_stream 0 = .ok (.aload_n 3, 1) := by decide +kernel
theorem dL_stream_1 : decode cL_stream 1 = .ok (.iconst 0, 1) := by decide +kernel
theorem dL_stream_2 : decode cL_stream 2 = .ok (.aload_n 0, 1) := by decide +kernel
theorem dL_stream_3 : decode cL_stream 3 = .ok (.iload_n 1, 1) := by decide +kernel
theorem dL_stream_4 : decode cL_stream 4 = .ok (.iload_n 2, 1) := by decide +kernel
theorem dL_stream_5 : decode cL_stream 5 = .ok (.invokevirtual 27, 3) := by decide +kernel
theorem dL_stream_8 : decode cL_stream 8 = .ok (.i2l, 1) := by decide +kernel
theorem dL_stream_9 : decode cL_stream 9 = .ok (.lastore, 1) := by decide +kernel
theorem dL_stream_10 : decode cL_stream 10 = .ok (.goto 11, 3) := by decide +kernel
theorem dL_stream_13 : decode cL_stream 13 = .ok (.astore 4, 2) := by decide +kernel
theorem dL_stream_15 : decode cL_stream 15 = .ok (.iconst 1, 1) := by decide +kernel
theorem dL_stream_16 : decode cL_stream 16 = .ok (.ireturn, 1) := by decide +kernel
theorem dL_stream_17 : decode cL_stream 17 = .ok (.astore 4, 2) := by decide +kernel
theorem dL_stream_19 : decode cL_stream 19 = .ok (.iconst 2, 1) := by decide +kernel
theorem dL_stream_20 : decode cL_stream 20 = .ok (.ireturn, 1) := by decide +kernel
theorem dL_stream_21 : decode cL_stream 21 = .ok (.iconst 0, 1) := by decide +kernel
theorem dL_stream_22 : decode cL_stream 22 = .ok (.ireturn, 1) := by decide +kernel
theorem dL_packets_0 : decode cL_packets 0 = .ok (.aload_n 2, 1) := by decide +kernel
theorem dL_packets_1 : decode cL_packets 1 = .ok (.iconst 0, 1) := by decide +kernel
theorem dL_packets_2 : decode cL_packets 2 = .ok (.aload_n 0, 1) := by decide +kernel
theorem dL_packets_3 : decode cL_packets 3 = .ok (.iload_n 1, 1) := by decide +kernel
theorem dL_packets_4 : decode cL_packets 4 = .ok (.invokevirtual 30, 3) := by decide +kernel
theorem dL_packets_7 : decode cL_packets 7 = .ok (.lastore, 1) := by decide +kernel
theorem dL_packets_8 : decode cL_packets 8 = .ok (.goto 6, 3) := by decide +kernel
theorem dL_packets_11 : decode cL_packets 11 = .ok (.astore_n 3, 1) := by decide +kernel
theorem dL_packets_12 : decode cL_packets 12 = .ok (.iconst 1, 1) := by decide +kernel
theorem dL_packets_13 : decode cL_packets 13 = .ok (.ireturn, 1) := by decide +kernel
theorem dL_packets_14 : decode cL_packets 14 = .ok (.iconst 0, 1) := by decide +kernel
theorem dL_packets_15 : decode cL_packets 15 = .ok (.ireturn, 1) := by decide +kernel
theorem dL_error_0 : decode cL_error 0 = .ok (.aload 4, 2) := by decide +kernel
theorem dL_error_2 : decode cL_error 2 = .ok (.iconst 0, 1) := by decide +kernel
theorem dL_error_3 : decode cL_error 3 = .ok (.aload_n 0, 1) := by decide +kernel
theorem dL_error_4 : decode cL_error 4 = .ok (.iload_n 1, 1) := by decide +kernel
theorem dL_error_5 : decode cL_error 5 = .ok (.iload_n 2, 1) := by decide +kernel
theorem dL_error_6 : decode cL_error 6 = .ok (.iload_n 3, 1) := by decide +kernel
theorem dL_error_7 : decode cL_error 7 = .ok (.invokevirtual 34, 3) := by decide +kernel
theorem dL_error_10 : decode cL_error 10 = .ok (.i2l, 1) := by decide +kernel
theorem dL_error_11 : decode cL_error 11 = .ok (.lastore, 1) := by decide +kernel
theorem dL_error_12 : decode cL_error 12 = .ok (.goto 11, 3) := by decide +kernel
theorem dL_error_15 : decode cL_error 15 = .ok (.astore 5, 2) := by decide +kernel
theorem dL_error_17 : decode cL_error 17 = .ok (.iconst 1, 1) := by decide +kernel
theorem dL_error_18 : decode cL_error 18 = .ok (.ireturn, 1) := by decide +kernel
theorem dL_error_19 : decode cL_error 19 = .ok (.astore 5, 2) := by decide +kernel
theorem dL_error_21 : decode cL_error 21 = .ok (.iconst 2, 1) := by decide +kernel
theorem dL_error_22 : decode cL_error 22 = .ok (.ireturn, 1) := by decide +kernel
theorem dL_error_23 : decode cL_error 23 = .ok (.iconst 0, 1) := by decide +kernel
theorem dL_error_24 : decode cL_error 24 = .ok (.ireturn, 1) := by decide +kernel
theorem dL_cause_0 : decode cL_cause 0 = .ok (.aload_n 3, 1) := by decide +kernel
theorem dL_cause_1 : decode cL_cause 1 = .ok (.iconst 0, 1) := by decide +kernel
theorem dL_cause_2 : decode cL_cause 2 = .ok (.aload_n 0, 1) := by decide +kernel
theorem dL_cause_3 : decode cL_cause 3 = .ok (.iload_n 1, 1) := by decide +kernel
theorem dL_cause_4 : decode cL_cause 4 = .ok (.iload_n 2, 1) := by decide +kernel
theorem dL_cause_5 : decode cL_cause 5 = .ok (.invokevirtual 38, 3) := by decide +kernel
theorem dL_cause_8 : decode cL_cause 8 = .ok (.i2l, 1) := by decide +kernel
theorem dL_cause_9 : decode cL_cause 9 = .ok (.lastore, 1) := by decide +kernel
theorem dL_cause_10 : decode cL_cause 10 = .ok (.goto 7, 3) := by decide +kernel
theorem dL_cause_13 : decode cL_cause 13 = .ok (.astore 4, 2) := by decide +kernel
theorem dL_cause_15 : decode cL_cause 15 = .ok (.iconst 1, 1) := by decide +kernel
theorem dL_cause_16 : decode cL_cause 16 = .ok (.ireturn, 1) := by decide +kernel
theorem dL_cause_17 : decode cL_cause 17 = .ok (.iconst 0, 1) := by decide +kernel
theorem dL_cause_18 : decode cL_cause 18 = .ok (.ireturn, 1) := by decide +kernel
theorem dL_scoreWith_0 : decode cL_scoreWith 0 = .ok (.aload_n 3, 1) := by decide +kernel
theorem dL_scoreWith_1 : decode cL_scoreWith 1 = .ok (.iconst 0, 1) := by decide +kernel
theorem dL_scoreWith_2 : decode cL_scoreWith 2 = .ok (.aload_n 0, 1) := by decide +kernel
theorem dL_scoreWith_3 : decode cL_scoreWith 3 = .ok (.iload_n 1, 1) := by decide +kernel
theorem dL_scoreWith_4 : decode cL_scoreWith 4 = .ok (.iload_n 2, 1) := by decide +kernel
theorem dL_scoreWith_5 : decode cL_scoreWith 5 = .ok (.invokevirtual 41, 3) := by decide +kernel
theorem dL_scoreWith_8 : decode cL_scoreWith 8 = .ok (.i2l, 1) := by decide +kernel
theorem dL_scoreWith_9 : decode cL_scoreWith 9 = .ok (.lastore, 1) := by decide +kernel
theorem dL_scoreWith_10 : decode cL_scoreWith 10 = .ok (.goto 11, 3) := by decide +kernel
theorem dL_scoreWith_13 : decode cL_scoreWith 13 = .ok (.astore 4, 2) := by decide +kernel
theorem dL_scoreWith_15 : decode cL_scoreWith 15 = .ok (.iconst 1, 1) := by decide +kernel
theorem dL_scoreWith_16 : decode cL_scoreWith 16 = .ok (.ireturn, 1) := by decide +kernel
theorem dL_scoreWith_17 : decode cL_scoreWith 17 = .ok (.astore 4, 2) := by decide +kernel
theorem dL_scoreWith_19 : decode cL_scoreWith 19 = .ok (.iconst 2, 1) := by decide +kernel
theorem dL_scoreWith_20 : decode cL_scoreWith 20 = .ok (.ireturn, 1) := by decide +kernel
theorem dL_scoreWith_21 : decode cL_scoreWith 21 = .ok (.iconst 0, 1) := by decide +kernel
theorem dL_scoreWith_22 : decode cL_scoreWith 22 = .ok (.ireturn, 1) := by decide +kernel
theorem dL_feared_0 : decode cL_feared 0 = .ok (.aload_n 2, 1) := by decide +kernel
theorem dL_feared_1 : decode cL_feared 1 = .ok (.iconst 0, 1) := by decide +kernel
theorem dL_feared_2 : decode cL_feared 2 = .ok (.aload_n 0, 1) := by decide +kernel
theorem dL_feared_3 : decode cL_feared 3 = .ok (.iload_n 1, 1) := by decide +kernel
theorem dL_feared_4 : decode cL_feared 4 = .ok (.invokevirtual 44, 3) := by decide +kernel
theorem dL_feared_7 : decode cL_feared 7 = .ok (.i2l, 1) := by decide +kernel
theorem dL_feared_8 : decode cL_feared 8 = .ok (.lastore, 1) := by decide +kernel
theorem dL_feared_9 : decode cL_feared 9 = .ok (.goto 6, 3) := by decide +kernel
theorem dL_feared_12 : decode cL_feared 12 = .ok (.astore_n 3, 1) := by decide +kernel
theorem dL_feared_13 : decode cL_feared 13 = .ok (.iconst 1, 1) := by decide +kernel
theorem dL_feared_14 : decode cL_feared 14 = .ok (.ireturn, 1) := by decide +kernel
theorem dL_feared_15 : decode cL_feared 15 = .ok (.iconst 0, 1) := by decide +kernel
theorem dL_feared_16 : decode cL_feared 16 = .ok (.ireturn, 1) := by decide +kernel
theorem dL_framesToClear_0 : decode cL_framesToClear 0 = .ok (.aload_n 2, 1) := by decide +kernel
theorem dL_framesToClear_1 : decode cL_framesToClear 1 = .ok (.iconst 0, 1) := by decide +kernel
theorem dL_framesToClear_2 : decode cL_framesToClear 2 = .ok (.aload_n 0, 1) := by decide +kernel
theorem dL_framesToClear_3 : decode cL_framesToClear 3 = .ok (.iload_n 1, 1) := by decide +kernel
theorem dL_framesToClear_4 : decode cL_framesToClear 4 = .ok (.invokevirtual 47, 3) := by decide +kernel
theorem dL_framesToClear_7 : decode cL_framesToClear 7 = .ok (.i2l, 1) := by decide +kernel
theorem dL_framesToClear_8 : decode cL_framesToClear 8 = .ok (.lastore, 1) := by decide +kernel
theorem dL_framesToClear_9 : decode cL_framesToClear 9 = .ok (.goto 6, 3) := by decide +kernel
theorem dL_framesToClear_12 : decode cL_framesToClear 12 = .ok (.astore_n 3, 1) := by decide +kernel
theorem dL_framesToClear_13 : decode cL_framesToClear 13 = .ok (.iconst 1, 1) := by decide +kernel
theorem dL_framesToClear_14 : decode cL_framesToClear 14 = .ok (.ireturn, 1) := by decide +kernel
theorem dL_framesToClear_15 : decode cL_framesToClear 15 = .ok (.iconst 0, 1) := by decide +kernel
theorem dL_framesToClear_16 : decode cL_framesToClear 16 = .ok (.ireturn, 1) := by decide +kernel
theorem dL_atStake_0 : decode cL_atStake 0 = .ok (.aload_n 2, 1) := by decide +kernel
theorem dL_atStake_1 : decode cL_atStake 1 = .ok (.iconst 0, 1) := by decide +kernel
theorem dL_atStake_2 : decode cL_atStake 2 = .ok (.aload_n 0, 1) := by decide +kernel
theorem dL_atStake_3 : decode cL_atStake 3 = .ok (.iload_n 1, 1) := by decide +kernel
theorem dL_atStake_4 : decode cL_atStake 4 = .ok (.invokevirtual 50, 3) := by decide +kernel
theorem dL_atStake_7 : decode cL_atStake 7 = .ok (.i2l, 1) := by decide +kernel
theorem dL_atStake_8 : decode cL_atStake 8 = .ok (.lastore, 1) := by decide +kernel
theorem dL_atStake_9 : decode cL_atStake 9 = .ok (.goto 6, 3) := by decide +kernel
theorem dL_atStake_12 : decode cL_atStake 12 = .ok (.astore_n 3, 1) := by decide +kernel
theorem dL_atStake_13 : decode cL_atStake 13 = .ok (.iconst 1, 1) := by decide +kernel
theorem dL_atStake_14 : decode cL_atStake 14 = .ok (.ireturn, 1) := by decide +kernel
theorem dL_atStake_15 : decode cL_atStake 15 = .ok (.iconst 0, 1) := by decide +kernel
theorem dL_atStake_16 : decode cL_atStake 16 = .ok (.ireturn, 1) := by decide +kernel
theorem dL_whyNotRunning_0 : decode cL_whyNotRunning 0 = .ok (.aload_n 2, 1) := by decide +kernel
theorem dL_whyNotRunning_1 : decode cL_whyNotRunning 1 = .ok (.iconst 0, 1) := by decide +kernel
theorem dL_whyNotRunning_2 : decode cL_whyNotRunning 2 = .ok (.aload_n 0, 1) := by decide +kernel
theorem dL_whyNotRunning_3 : decode cL_whyNotRunning 3 = .ok (.iload_n 1, 1) := by decide +kernel
theorem dL_whyNotRunning_4 : decode cL_whyNotRunning 4 = .ok (.invokevirtual 53, 3) := by decide +kernel
theorem dL_whyNotRunning_7 : decode cL_whyNotRunning 7 = .ok (.i2l, 1) := by decide +kernel
theorem dL_whyNotRunning_8 : decode cL_whyNotRunning 8 = .ok (.lastore, 1) := by decide +kernel
theorem dL_whyNotRunning_9 : decode cL_whyNotRunning 9 = .ok (.goto 6, 3) := by decide +kernel
theorem dL_whyNotRunning_12 : decode cL_whyNotRunning 12 = .ok (.astore_n 3, 1) := by decide +kernel
theorem dL_whyNotRunning_13 : decode cL_whyNotRunning 13 = .ok (.iconst 1, 1) := by decide +kernel
theorem dL_whyNotRunning_14 : decode cL_whyNotRunning 14 = .ok (.ireturn, 1) := by decide +kernel
theorem dL_whyNotRunning_15 : decode cL_whyNotRunning 15 = .ok (.iconst 0, 1) := by decide +kernel
theorem dL_whyNotRunning_16 : decode cL_whyNotRunning 16 = .ok (.ireturn, 1) := by decide +kernel
theorem dL_event_0 : decode cL_event 0 = .ok (.aload_n 3, 1) := by decide +kernel
theorem dL_event_1 : decode cL_event 1 = .ok (.iconst 0, 1) := by decide +kernel
theorem dL_event_2 : decode cL_event 2 = .ok (.aload_n 0, 1) := by decide +kernel
theorem dL_event_3 : decode cL_event 3 = .ok (.iload_n 1, 1) := by decide +kernel
theorem dL_event_4 : decode cL_event 4 = .ok (.iload_n 2, 1) := by decide +kernel
theorem dL_event_5 : decode cL_event 5 = .ok (.invokevirtual 56, 3) := by decide +kernel
theorem dL_event_8 : decode cL_event 8 = .ok (.i2l, 1) := by decide +kernel
theorem dL_event_9 : decode cL_event 9 = .ok (.lastore, 1) := by decide +kernel
theorem dL_event_10 : decode cL_event 10 = .ok (.goto 7, 3) := by decide +kernel
theorem dL_event_13 : decode cL_event 13 = .ok (.astore 4, 2) := by decide +kernel
theorem dL_event_15 : decode cL_event 15 = .ok (.iconst 1, 1) := by decide +kernel
theorem dL_event_16 : decode cL_event 16 = .ok (.ireturn, 1) := by decide +kernel
theorem dL_event_17 : decode cL_event 17 = .ok (.iconst 0, 1) := by decide +kernel
theorem dL_event_18 : decode cL_event 18 = .ok (.ireturn, 1) := by decide +kernel
theorem dL_account_0 : decode cL_account 0 = .ok (.aload_n 2, 1) := by decide +kernel
theorem dL_account_1 : decode cL_account 1 = .ok (.iconst 0, 1) := by decide +kernel
theorem dL_account_2 : decode cL_account 2 = .ok (.aload_n 0, 1) := by decide +kernel
theorem dL_account_3 : decode cL_account 3 = .ok (.iload_n 1, 1) := by decide +kernel
theorem dL_account_4 : decode cL_account 4 = .ok (.invokevirtual 59, 3) := by decide +kernel
theorem dL_account_7 : decode cL_account 7 = .ok (.i2l, 1) := by decide +kernel
theorem dL_account_8 : decode cL_account 8 = .ok (.lastore, 1) := by decide +kernel
theorem dL_account_9 : decode cL_account 9 = .ok (.goto 6, 3) := by decide +kernel
theorem dL_account_12 : decode cL_account 12 = .ok (.astore_n 3, 1) := by decide +kernel
theorem dL_account_13 : decode cL_account 13 = .ok (.iconst 1, 1) := by decide +kernel
theorem dL_account_14 : decode cL_account 14 = .ok (.ireturn, 1) := by decide +kernel
theorem dL_account_15 : decode cL_account 15 = .ok (.iconst 0, 1) := by decide +kernel
theorem dL_account_16 : decode cL_account 16 = .ok (.ireturn, 1) := by decide +kernel
theorem dL_frames_0 : decode cL_frames 0 = .ok (.aload_n 2, 1) := by decide +kernel
theorem dL_frames_1 : decode cL_frames 1 = .ok (.iconst 0, 1) := by decide +kernel
theorem dL_frames_2 : decode cL_frames 2 = .ok (.aload_n 0, 1) := by decide +kernel
theorem dL_frames_3 : decode cL_frames 3 = .ok (.iload_n 1, 1) := by decide +kernel
theorem dL_frames_4 : decode cL_frames 4 = .ok (.invokevirtual 62, 3) := by decide +kernel
theorem dL_frames_7 : decode cL_frames 7 = .ok (.i2l, 1) := by decide +kernel
theorem dL_frames_8 : decode cL_frames 8 = .ok (.lastore, 1) := by decide +kernel
theorem dL_frames_9 : decode cL_frames 9 = .ok (.goto 6, 3) := by decide +kernel
theorem dL_frames_12 : decode cL_frames 12 = .ok (.astore_n 3, 1) := by decide +kernel
theorem dL_frames_13 : decode cL_frames 13 = .ok (.iconst 1, 1) := by decide +kernel
theorem dL_frames_14 : decode cL_frames 14 = .ok (.ireturn, 1) := by decide +kernel
theorem dL_frames_15 : decode cL_frames 15 = .ok (.iconst 0, 1) := by decide +kernel
theorem dL_frames_16 : decode cL_frames 16 = .ok (.ireturn, 1) := by decide +kernel
theorem dL_fail_0 : decode cL_fail 0 = .ok (.aload_n 3, 1) := by decide +kernel
theorem dL_fail_1 : decode cL_fail 1 = .ok (.iconst 0, 1) := by decide +kernel
theorem dL_fail_2 : decode cL_fail 2 = .ok (.aload_n 0, 1) := by decide +kernel
theorem dL_fail_3 : decode cL_fail 3 = .ok (.iload_n 1, 1) := by decide +kernel
theorem dL_fail_4 : decode cL_fail 4 = .ok (.iload_n 2, 1) := by decide +kernel
theorem dL_fail_5 : decode cL_fail 5 = .ok (.invokevirtual 65, 3) := by decide +kernel
theorem dL_fail_8 : decode cL_fail 8 = .ok (.i2l, 1) := by decide +kernel
theorem dL_fail_9 : decode cL_fail 9 = .ok (.lastore, 1) := by decide +kernel
theorem dL_fail_10 : decode cL_fail 10 = .ok (.goto 15, 3) := by decide +kernel
theorem dL_fail_13 : decode cL_fail 13 = .ok (.astore 4, 2) := by decide +kernel
theorem dL_fail_15 : decode cL_fail 15 = .ok (.iconst 1, 1) := by decide +kernel
theorem dL_fail_16 : decode cL_fail 16 = .ok (.ireturn, 1) := by decide +kernel
theorem dL_fail_17 : decode cL_fail 17 = .ok (.astore 4, 2) := by decide +kernel
theorem dL_fail_19 : decode cL_fail 19 = .ok (.iconst 2, 1) := by decide +kernel
theorem dL_fail_20 : decode cL_fail 20 = .ok (.ireturn, 1) := by decide +kernel
theorem dL_fail_21 : decode cL_fail 21 = .ok (.astore 4, 2) := by decide +kernel
theorem dL_fail_23 : decode cL_fail 23 = .ok (.iconst 3, 1) := by decide +kernel
theorem dL_fail_24 : decode cL_fail 24 = .ok (.ireturn, 1) := by decide +kernel
theorem dL_fail_25 : decode cL_fail 25 = .ok (.iconst 0, 1) := by decide +kernel
theorem dL_fail_26 : decode cL_fail 26 = .ok (.ireturn, 1) := by decide +kernel
theorem dL_warn_0 : decode cL_warn 0 = .ok (.aload_n 2, 1) := by decide +kernel
theorem dL_warn_1 : decode cL_warn 1 = .ok (.iconst 0, 1) := by decide +kernel
theorem dL_warn_2 : decode cL_warn 2 = .ok (.aload_n 0, 1) := by decide +kernel
theorem dL_warn_3 : decode cL_warn 3 = .ok (.iload_n 1, 1) := by decide +kernel
theorem dL_warn_4 : decode cL_warn 4 = .ok (.invokevirtual 70, 3) := by decide +kernel
theorem dL_warn_7 : decode cL_warn 7 = .ok (.i2l, 1) := by decide +kernel
theorem dL_warn_8 : decode cL_warn 8 = .ok (.lastore, 1) := by decide +kernel
theorem dL_warn_9 : decode cL_warn 9 = .ok (.goto 9, 3) := by decide +kernel
theorem dL_warn_12 : decode cL_warn 12 = .ok (.astore_n 3, 1) := by decide +kernel
theorem dL_warn_13 : decode cL_warn 13 = .ok (.iconst 1, 1) := by decide +kernel
theorem dL_warn_14 : decode cL_warn 14 = .ok (.ireturn, 1) := by decide +kernel
theorem dL_warn_15 : decode cL_warn 15 = .ok (.astore_n 3, 1) := by decide +kernel
theorem dL_warn_16 : decode cL_warn 16 = .ok (.iconst 2, 1) := by decide +kernel
theorem dL_warn_17 : decode cL_warn 17 = .ok (.ireturn, 1) := by decide +kernel
theorem dL_warn_18 : decode cL_warn 18 = .ok (.iconst 0, 1) := by decide +kernel
theorem dL_warn_19 : decode cL_warn 19 = .ok (.ireturn, 1) := by decide +kernel
theorem dL_callOff_0 : decode cL_callOff 0 = .ok (.aload_n 2, 1) := by decide +kernel
theorem dL_callOff_1 : decode cL_callOff 1 = .ok (.iconst 0, 1) := by decide +kernel
theorem dL_callOff_2 : decode cL_callOff 2 = .ok (.aload_n 0, 1) := by decide +kernel
theorem dL_callOff_3 : decode cL_callOff 3 = .ok (.iload_n 1, 1) := by decide +kernel
theorem dL_callOff_4 : decode cL_callOff 4 = .ok (.invokevirtual 73, 3) := by decide +kernel
theorem dL_callOff_7 : decode cL_callOff 7 = .ok (.i2l, 1) := by decide +kernel
theorem dL_callOff_8 : decode cL_callOff 8 = .ok (.lastore, 1) := by decide +kernel
theorem dL_callOff_9 : decode cL_callOff 9 = .ok (.goto 9, 3) := by decide +kernel
theorem dL_callOff_12 : decode cL_callOff 12 = .ok (.astore_n 3, 1) := by decide +kernel
theorem dL_callOff_13 : decode cL_callOff 13 = .ok (.iconst 1, 1) := by decide +kernel
theorem dL_callOff_14 : decode cL_callOff 14 = .ok (.ireturn, 1) := by decide +kernel
theorem dL_callOff_15 : decode cL_callOff 15 = .ok (.astore_n 3, 1) := by decide +kernel
theorem dL_callOff_16 : decode cL_callOff 16 = .ok (.iconst 2, 1) := by decide +kernel
theorem dL_callOff_17 : decode cL_callOff 17 = .ok (.ireturn, 1) := by decide +kernel
theorem dL_callOff_18 : decode cL_callOff 18 = .ok (.iconst 0, 1) := by decide +kernel
theorem dL_callOff_19 : decode cL_callOff 19 = .ok (.ireturn, 1) := by decide +kernel
theorem dL_unplug_0 : decode cL_unplug 0 = .ok (.aload_n 2, 1) := by decide +kernel
theorem dL_unplug_1 : decode cL_unplug 1 = .ok (.iconst 0, 1) := by decide +kernel
theorem dL_unplug_2 : decode cL_unplug 2 = .ok (.aload_n 0, 1) := by decide +kernel
theorem dL_unplug_3 : decode cL_unplug 3 = .ok (.iload_n 1, 1) := by decide +kernel
theorem dL_unplug_4 : decode cL_unplug 4 = .ok (.invokevirtual 76, 3) := by decide +kernel
theorem dL_unplug_7 : decode cL_unplug 7 = .ok (.i2l, 1) := by decide +kernel
theorem dL_unplug_8 : decode cL_unplug 8 = .ok (.lastore, 1) := by decide +kernel
theorem dL_unplug_9 : decode cL_unplug 9 = .ok (.goto 9, 3) := by decide +kernel
theorem dL_unplug_12 : decode cL_unplug 12 = .ok (.astore_n 3, 1) := by decide +kernel
theorem dL_unplug_13 : decode cL_unplug 13 = .ok (.iconst 1, 1) := by decide +kernel
theorem dL_unplug_14 : decode cL_unplug 14 = .ok (.ireturn, 1) := by decide +kernel
theorem dL_unplug_15 : decode cL_unplug 15 = .ok (.astore_n 3, 1) := by decide +kernel
theorem dL_unplug_16 : decode cL_unplug 16 = .ok (.iconst 2, 1) := by decide +kernel
theorem dL_unplug_17 : decode cL_unplug 17 = .ok (.ireturn, 1) := by decide +kernel
theorem dL_unplug_18 : decode cL_unplug 18 = .ok (.iconst 0, 1) := by decide +kernel
theorem dL_unplug_19 : decode cL_unplug 19 = .ok (.ireturn, 1) := by decide +kernel
theorem dL_plug_0 : decode cL_plug 0 = .ok (.aload_n 3, 1) := by decide +kernel
theorem dL_plug_1 : decode cL_plug 1 = .ok (.iconst 0, 1) := by decide +kernel
theorem dL_plug_2 : decode cL_plug 2 = .ok (.aload_n 0, 1) := by decide +kernel
theorem dL_plug_3 : decode cL_plug 3 = .ok (.iload_n 1, 1) := by decide +kernel
theorem dL_plug_4 : decode cL_plug 4 = .ok (.iload_n 2, 1) := by decide +kernel
theorem dL_plug_5 : decode cL_plug 5 = .ok (.invokevirtual 79, 3) := by decide +kernel
theorem dL_plug_8 : decode cL_plug 8 = .ok (.i2l, 1) := by decide +kernel
theorem dL_plug_9 : decode cL_plug 9 = .ok (.lastore, 1) := by decide +kernel
theorem dL_plug_10 : decode cL_plug 10 = .ok (.goto 11, 3) := by decide +kernel
theorem dL_plug_13 : decode cL_plug 13 = .ok (.astore 4, 2) := by decide +kernel
theorem dL_plug_15 : decode cL_plug 15 = .ok (.iconst 1, 1) := by decide +kernel
theorem dL_plug_16 : decode cL_plug 16 = .ok (.ireturn, 1) := by decide +kernel
theorem dL_plug_17 : decode cL_plug 17 = .ok (.astore 4, 2) := by decide +kernel
theorem dL_plug_19 : decode cL_plug 19 = .ok (.iconst 2, 1) := by decide +kernel
theorem dL_plug_20 : decode cL_plug 20 = .ok (.ireturn, 1) := by decide +kernel
theorem dL_plug_21 : decode cL_plug 21 = .ok (.iconst 0, 1) := by decide +kernel
theorem dL_plug_22 : decode cL_plug 22 = .ok (.ireturn, 1) := by decide +kernel
theorem dL_setScore_0 : decode cL_setScore 0 = .ok (.aload_n 2, 1) := by decide +kernel
theorem dL_setScore_1 : decode cL_setScore 1 = .ok (.iconst 0, 1) := by decide +kernel
theorem dL_setScore_2 : decode cL_setScore 2 = .ok (.aload_n 0, 1) := by decide +kernel
theorem dL_setScore_3 : decode cL_setScore 3 = .ok (.iload_n 1, 1) := by decide +kernel
theorem dL_setScore_4 : decode cL_setScore 4 = .ok (.invokevirtual 82, 3) := by decide +kernel
theorem dL_setScore_7 : decode cL_setScore 7 = .ok (.i2l, 1) := by decide +kernel
theorem dL_setScore_8 : decode cL_setScore 8 = .ok (.lastore, 1) := by decide +kernel
theorem dL_setScore_9 : decode cL_setScore 9 = .ok (.goto 6, 3) := by decide +kernel
theorem dL_setScore_12 : decode cL_setScore 12 = .ok (.astore_n 3, 1) := by decide +kernel
theorem dL_setScore_13 : decode cL_setScore 13 = .ok (.iconst 1, 1) := by decide +kernel
theorem dL_setScore_14 : decode cL_setScore 14 = .ok (.ireturn, 1) := by decide +kernel
theorem dL_setScore_15 : decode cL_setScore 15 = .ok (.iconst 0, 1) := by decide +kernel
theorem dL_setScore_16 : decode cL_setScore 16 = .ok (.ireturn, 1) := by decide +kernel
theorem dL_law_0 : decode cL_law 0 = .ok (.new 8, 3) := by decide +kernel
theorem dL_law_3 : decode cL_law 3 = .ok (.dup, 1) := by decide +kernel
theorem dL_law_4 : decode cL_law 4 = .ok (.invokespecial 85, 3) := by decide +kernel
theorem dL_law_7 : decode cL_law 7 = .ok (.astore_n 1, 1) := by decide +kernel
theorem dL_law_8 : decode cL_law 8 = .ok (.new 86, 3) := by decide +kernel
theorem dL_law_11 : decode cL_law 11 = .ok (.dup, 1) := by decide +kernel
theorem dL_law_12 : decode cL_law 12 = .ok (.invokespecial 88, 3) := by decide +kernel
theorem dL_law_15 : decode cL_law 15 = .ok (.astore_n 2, 1) := by decide +kernel
theorem dL_law_16 : decode cL_law 16 = .ok (.iconst 1, 1) := by decide +kernel
theorem dL_law_17 : decode cL_law 17 = .ok (.newarray .long, 2) := by decide +kernel
theorem dL_law_19 : decode cL_law 19 = .ok (.astore_n 3, 1) := by decide +kernel
theorem dL_law_20 : decode cL_law 20 = .ok (.iconst 0, 1) := by decide +kernel
theorem dL_law_21 : decode cL_law 21 = .ok (.istore 4, 2) := by decide +kernel
theorem dL_law_23 : decode cL_law 23 = .ok (.iload 4, 2) := by decide +kernel
theorem dL_law_25 : decode cL_law 25 = .ok (.aload_n 0, 1) := by decide +kernel
theorem dL_law_26 : decode cL_law 26 = .ok (.arraylength, 1) := by decide +kernel
theorem dL_law_27 : decode cL_law 27 = .ok (.bipush 6, 2) := by decide +kernel
theorem dL_law_29 : decode cL_law 29 = .ok (.isub, 1) := by decide +kernel
theorem dL_law_30 : decode cL_law 30 = .ok (.if_icmp .gt 1673, 3) := by decide +kernel
theorem dL_law_33 : decode cL_law 33 = .ok (.aload_n 0, 1) := by decide +kernel
theorem dL_law_34 : decode cL_law 34 = .ok (.iload 4, 2) := by decide +kernel
theorem dL_law_36 : decode cL_law 36 = .ok (.iaload, 1) := by decide +kernel
theorem dL_law_37 : decode cL_law 37 = .ok (.bipush 31, 2) := by decide +kernel
theorem dL_law_39 : decode cL_law 39 = .ok (.iand, 1) := by decide +kernel
theorem dL_law_40 : decode cL_law 40 = .ok (.tableswitch 1657 0 27 #[128, 201, 257, 313, 369, 437, 505, 560, 640, 708, 776, 832, 888, 944, 957, 1013, 1081, 1137, 1178, 1234, 1302, 1358, 1414, 1470, 1538, 1594, 1607, 1632], 128) := by decide +kernel
theorem dL_law_168 : decode cL_law 168 = .ok (.aload_n 1, 1) := by decide +kernel
theorem dL_law_169 : decode cL_law 169 = .ok (.aload_n 0, 1) := by decide +kernel
theorem dL_law_170 : decode cL_law 170 = .ok (.iload 4, 2) := by decide +kernel
theorem dL_law_172 : decode cL_law 172 = .ok (.iconst 1, 1) := by decide +kernel
theorem dL_law_173 : decode cL_law 173 = .ok (.iadd, 1) := by decide +kernel
theorem dL_law_174 : decode cL_law 174 = .ok (.iaload, 1) := by decide +kernel
theorem dL_law_175 : decode cL_law 175 = .ok (.aload_n 0, 1) := by decide +kernel
theorem dL_law_176 : decode cL_law 176 = .ok (.iload 4, 2) := by decide +kernel
theorem dL_law_178 : decode cL_law 178 = .ok (.iconst 2, 1) := by decide +kernel
theorem dL_law_179 : decode cL_law 179 = .ok (.iadd, 1) := by decide +kernel
theorem dL_law_180 : decode cL_law 180 = .ok (.iaload, 1) := by decide +kernel
theorem dL_law_181 : decode cL_law 181 = .ok (.aload_n 0, 1) := by decide +kernel
theorem dL_law_182 : decode cL_law 182 = .ok (.iload 4, 2) := by decide +kernel
theorem dL_law_184 : decode cL_law 184 = .ok (.iconst 3, 1) := by decide +kernel
theorem dL_law_185 : decode cL_law 185 = .ok (.iadd, 1) := by decide +kernel
theorem dL_law_186 : decode cL_law 186 = .ok (.iaload, 1) := by decide +kernel
theorem dL_law_187 : decode cL_law 187 = .ok (.aload_n 0, 1) := by decide +kernel
theorem dL_law_188 : decode cL_law 188 = .ok (.iload 4, 2) := by decide +kernel
theorem dL_law_190 : decode cL_law 190 = .ok (.iconst 4, 1) := by decide +kernel
theorem dL_law_191 : decode cL_law 191 = .ok (.iadd, 1) := by decide +kernel
theorem dL_law_192 : decode cL_law 192 = .ok (.iaload, 1) := by decide +kernel
theorem dL_law_193 : decode cL_law 193 = .ok (.aload_n 0, 1) := by decide +kernel
theorem dL_law_194 : decode cL_law 194 = .ok (.iload 4, 2) := by decide +kernel
theorem dL_law_196 : decode cL_law 196 = .ok (.iconst 5, 1) := by decide +kernel
theorem dL_law_197 : decode cL_law 197 = .ok (.iadd, 1) := by decide +kernel
theorem dL_law_198 : decode cL_law 198 = .ok (.iaload, 1) := by decide +kernel
theorem dL_law_199 : decode cL_law 199 = .ok (.invokevirtual 89, 3) := by decide +kernel
theorem dL_law_202 : decode cL_law 202 = .ok (.aload_n 2, 1) := by decide +kernel
theorem dL_law_203 : decode cL_law 203 = .ok (.aload_n 0, 1) := by decide +kernel
theorem dL_law_204 : decode cL_law 204 = .ok (.iload 4, 2) := by decide +kernel
theorem dL_law_206 : decode cL_law 206 = .ok (.iconst 1, 1) := by decide +kernel
theorem dL_law_207 : decode cL_law 207 = .ok (.iadd, 1) := by decide +kernel
theorem dL_law_208 : decode cL_law 208 = .ok (.iaload, 1) := by decide +kernel
theorem dL_law_209 : decode cL_law 209 = .ok (.aload_n 0, 1) := by decide +kernel
theorem dL_law_210 : decode cL_law 210 = .ok (.iload 4, 2) := by decide +kernel
theorem dL_law_212 : decode cL_law 212 = .ok (.iconst 2, 1) := by decide +kernel
theorem dL_law_213 : decode cL_law 213 = .ok (.iadd, 1) := by decide +kernel
theorem dL_law_214 : decode cL_law 214 = .ok (.iaload, 1) := by decide +kernel
theorem dL_law_215 : decode cL_law 215 = .ok (.aload_n 0, 1) := by decide +kernel
theorem dL_law_216 : decode cL_law 216 = .ok (.iload 4, 2) := by decide +kernel
theorem dL_law_218 : decode cL_law 218 = .ok (.iconst 3, 1) := by decide +kernel
theorem dL_law_219 : decode cL_law 219 = .ok (.iadd, 1) := by decide +kernel
theorem dL_law_220 : decode cL_law 220 = .ok (.iaload, 1) := by decide +kernel
theorem dL_law_221 : decode cL_law 221 = .ok (.aload_n 0, 1) := by decide +kernel
theorem dL_law_222 : decode cL_law 222 = .ok (.iload 4, 2) := by decide +kernel
theorem dL_law_224 : decode cL_law 224 = .ok (.iconst 4, 1) := by decide +kernel
theorem dL_law_225 : decode cL_law 225 = .ok (.iadd, 1) := by decide +kernel
theorem dL_law_226 : decode cL_law 226 = .ok (.iaload, 1) := by decide +kernel
theorem dL_law_227 : decode cL_law 227 = .ok (.aload_n 0, 1) := by decide +kernel
theorem dL_law_228 : decode cL_law 228 = .ok (.iload 4, 2) := by decide +kernel
theorem dL_law_230 : decode cL_law 230 = .ok (.iconst 5, 1) := by decide +kernel
theorem dL_law_231 : decode cL_law 231 = .ok (.iadd, 1) := by decide +kernel
theorem dL_law_232 : decode cL_law 232 = .ok (.iaload, 1) := by decide +kernel
theorem dL_law_233 : decode cL_law 233 = .ok (.invokevirtual 93, 3) := by decide +kernel
theorem dL_law_236 : decode cL_law 236 = .ok (.if_icmp .eq 1461, 3) := by decide +kernel
theorem dL_law_239 : decode cL_law 239 = .ok (.iconst 0, 1) := by decide +kernel
theorem dL_law_240 : decode cL_law 240 = .ok (.ireturn, 1) := by decide +kernel
theorem dL_law_241 : decode cL_law 241 = .ok (.aload_n 1, 1) := by decide +kernel
theorem dL_law_242 : decode cL_law 242 = .ok (.aload_n 0, 1) := by decide +kernel
theorem dL_law_243 : decode cL_law 243 = .ok (.iload 4, 2) := by decide +kernel
theorem dL_law_245 : decode cL_law 245 = .ok (.iconst 1, 1) := by decide +kernel
theorem dL_law_246 : decode cL_law 246 = .ok (.iadd, 1) := by decide +kernel
theorem dL_law_247 : decode cL_law 247 = .ok (.iaload, 1) := by decide +kernel
theorem dL_law_248 : decode cL_law 248 = .ok (.aload_n 3, 1) := by decide +kernel
theorem dL_law_249 : decode cL_law 249 = .ok (.invokestatic 94, 3) := by decide +kernel
theorem dL_law_252 : decode cL_law 252 = .ok (.istore 5, 2) := by decide +kernel
theorem dL_law_254 : decode cL_law 254 = .ok (.aload_n 2, 1) := by decide +kernel
theorem dL_law_255 : decode cL_law 255 = .ok (.aload_n 0, 1) := by decide +kernel
theorem dL_law_256 : decode cL_law 256 = .ok (.iload 4, 2) := by decide +kernel
theorem dL_law_258 : decode cL_law 258 = .ok (.iconst 1, 1) := by decide +kernel
theorem dL_law_259 : decode cL_law 259 = .ok (.iadd, 1) := by decide +kernel
theorem dL_law_260 : decode cL_law 260 = .ok (.iaload, 1) := by decide +kernel
theorem dL_law_261 : decode cL_law 261 = .ok (.invokevirtual 99, 3) := by decide +kernel
theorem dL_law_264 : decode cL_law 264 = .ok (.istore 6, 2) := by decide +kernel
theorem dL_law_266 : decode cL_law 266 = .ok (.aload_n 2, 1) := by decide +kernel
theorem dL_law_267 : decode cL_law 267 = .ok (.invokevirtual 100, 3) := by decide +kernel
theorem dL_law_270 : decode cL_law 270 = .ok (.iload 5, 2) := by decide +kernel
theorem dL_law_272 : decode cL_law 272 = .ok (.if_icmp .eq 5, 3) := by decide +kernel
theorem dL_law_275 : decode cL_law 275 = .ok (.iconst 0, 1) := by decide +kernel
theorem dL_law_276 : decode cL_law 276 = .ok (.ireturn, 1) := by decide +kernel
theorem dL_law_277 : decode cL_law 277 = .ok (.iload 5, 2) := by decide +kernel
theorem dL_law_279 : decode cL_law 279 = .ok (.ifCond .ne 15, 3) := by decide +kernel
theorem dL_law_282 : decode cL_law 282 = .ok (.aload_n 3, 1) := by decide +kernel
theorem dL_law_283 : decode cL_law 283 = .ok (.iconst 0, 1) := by decide +kernel
theorem dL_law_284 : decode cL_law 284 = .ok (.laload, 1) := by decide +kernel
theorem dL_law_285 : decode cL_law 285 = .ok (.iload 6, 2) := by decide +kernel
theorem dL_law_287 : decode cL_law 287 = .ok (.i2l, 1) := by decide +kernel
theorem dL_law_288 : decode cL_law 288 = .ok (.lcmp, 1) := by decide +kernel
theorem dL_law_289 : decode cL_law 289 = .ok (.ifCond .eq 5, 3) := by decide +kernel
theorem dL_law_292 : decode cL_law 292 = .ok (.iconst 0, 1) := by decide +kernel
theorem dL_law_293 : decode cL_law 293 = .ok (.ireturn, 1) := by decide +kernel
theorem dL_law_294 : decode cL_law 294 = .ok (.goto 1403, 3) := by decide +kernel
theorem dL_law_297 : decode cL_law 297 = .ok (.aload_n 1, 1) := by decide +kernel
theorem dL_law_298 : decode cL_law 298 = .ok (.aload_n 0, 1) := by decide +kernel
theorem dL_law_299 : decode cL_law 299 = .ok (.iload 4, 2) := by decide +kernel
theorem dL_law_301 : decode cL_law 301 = .ok (.iconst 1, 1) := by decide +kernel
theorem dL_law_302 : decode cL_law 302 = .ok (.iadd, 1) := by decide +kernel
theorem dL_law_303 : decode cL_law 303 = .ok (.iaload, 1) := by decide +kernel
theorem dL_law_304 : decode cL_law 304 = .ok (.aload_n 3, 1) := by decide +kernel
theorem dL_law_305 : decode cL_law 305 = .ok (.invokestatic 104, 3) := by decide +kernel
theorem dL_law_308 : decode cL_law 308 = .ok (.istore 5, 2) := by decide +kernel
theorem dL_law_310 : decode cL_law 310 = .ok (.aload_n 2, 1) := by decide +kernel
theorem dL_law_311 : decode cL_law 311 = .ok (.aload_n 0, 1) := by decide +kernel
theorem dL_law_312 : decode cL_law 312 = .ok (.iload 4, 2) := by decide +kernel
theorem dL_law_314 : decode cL_law 314 = .ok (.iconst 1, 1) := by decide +kernel
theorem dL_law_315 : decode cL_law 315 = .ok (.iadd, 1) := by decide +kernel
theorem dL_law_316 : decode cL_law 316 = .ok (.iaload, 1) := by decide +kernel
theorem dL_law_317 : decode cL_law 317 = .ok (.invokevirtual 106, 3) := by decide +kernel
theorem dL_law_320 : decode cL_law 320 = .ok (.istore 6, 2) := by decide +kernel
theorem dL_law_322 : decode cL_law 322 = .ok (.aload_n 2, 1) := by decide +kernel
theorem dL_law_323 : decode cL_law 323 = .ok (.invokevirtual 100, 3) := by decide +kernel
theorem dL_law_326 : decode cL_law 326 = .ok (.iload 5, 2) := by decide +kernel
theorem dL_law_328 : decode cL_law 328 = .ok (.if_icmp .eq 5, 3) := by decide +kernel
theorem dL_law_331 : decode cL_law 331 = .ok (.iconst 0, 1) := by decide +kernel
theorem dL_law_332 : decode cL_law 332 = .ok (.ireturn, 1) := by decide +kernel
theorem dL_law_333 : decode cL_law 333 = .ok (.iload 5, 2) := by decide +kernel
theorem dL_law_335 : decode cL_law 335 = .ok (.ifCond .ne 15, 3) := by decide +kernel
theorem dL_law_338 : decode cL_law 338 = .ok (.aload_n 3, 1) := by decide +kernel
theorem dL_law_339 : decode cL_law 339 = .ok (.iconst 0, 1) := by decide +kernel
theorem dL_law_340 : decode cL_law 340 = .ok (.laload, 1) := by decide +kernel
theorem dL_law_341 : decode cL_law 341 = .ok (.iload 6, 2) := by decide +kernel
theorem dL_law_343 : decode cL_law 343 = .ok (.i2l, 1) := by decide +kernel
theorem dL_law_344 : decode cL_law 344 = .ok (.lcmp, 1) := by decide +kernel
theorem dL_law_345 : decode cL_law 345 = .ok (.ifCond .eq 5, 3) := by decide +kernel
theorem dL_law_348 : decode cL_law 348 = .ok (.iconst 0, 1) := by decide +kernel
theorem dL_law_349 : decode cL_law 349 = .ok (.ireturn, 1) := by decide +kernel
theorem dL_law_350 : decode cL_law 350 = .ok (.goto 1347, 3) := by decide +kernel
theorem dL_law_353 : decode cL_law 353 = .ok (.aload_n 1, 1) := by decide +kernel
theorem dL_law_354 : decode cL_law 354 = .ok (.aload_n 0, 1) := by decide +kernel
theorem dL_law_355 : decode cL_law 355 = .ok (.iload 4, 2) := by decide +kernel
theorem dL_law_357 : decode cL_law 357 = .ok (.iconst 1, 1) := by decide +kernel
theorem dL_law_358 : decode cL_law 358 = .ok (.iadd, 1) := by decide +kernel
theorem dL_law_359 : decode cL_law 359 = .ok (.iaload, 1) := by decide +kernel
theorem dL_law_360 : decode cL_law 360 = .ok (.aload_n 3, 1) := by decide +kernel
theorem dL_law_361 : decode cL_law 361 = .ok (.invokestatic 107, 3) := by decide +kernel
theorem dL_law_364 : decode cL_law 364 = .ok (.istore 5, 2) := by decide +kernel
theorem dL_law_366 : decode cL_law 366 = .ok (.aload_n 2, 1) := by decide +kernel
theorem dL_law_367 : decode cL_law 367 = .ok (.aload_n 0, 1) := by decide +kernel
theorem dL_law_368 : decode cL_law 368 = .ok (.iload 4, 2) := by decide +kernel
theorem dL_law_370 : decode cL_law 370 = .ok (.iconst 1, 1) := by decide +kernel
theorem dL_law_371 : decode cL_law 371 = .ok (.iadd, 1) := by decide +kernel
theorem dL_law_372 : decode cL_law 372 = .ok (.iaload, 1) := by decide +kernel
theorem dL_law_373 : decode cL_law 373 = .ok (.invokevirtual 109, 3) := by decide +kernel
theorem dL_law_376 : decode cL_law 376 = .ok (.istore 6, 2) := by decide +kernel
theorem dL_law_378 : decode cL_law 378 = .ok (.aload_n 2, 1) := by decide +kernel
theorem dL_law_379 : decode cL_law 379 = .ok (.invokevirtual 100, 3) := by decide +kernel
theorem dL_law_382 : decode cL_law 382 = .ok (.iload 5, 2) := by decide +kernel
theorem dL_law_384 : decode cL_law 384 = .ok (.if_icmp .eq 5, 3) := by decide +kernel
theorem dL_law_387 : decode cL_law 387 = .ok (.iconst 0, 1) := by decide +kernel
theorem dL_law_388 : decode cL_law 388 = .ok (.ireturn, 1) := by decide +kernel
theorem dL_law_389 : decode cL_law 389 = .ok (.iload 5, 2) := by decide +kernel
theorem dL_law_391 : decode cL_law 391 = .ok (.ifCond .ne 15, 3) := by decide +kernel
theorem dL_law_394 : decode cL_law 394 = .ok (.aload_n 3, 1) := by decide +kernel
theorem dL_law_395 : decode cL_law 395 = .ok (.iconst 0, 1) := by decide +kernel
theorem dL_law_396 : decode cL_law 396 = .ok (.laload, 1) := by decide +kernel
theorem dL_law_397 : decode cL_law 397 = .ok (.iload 6, 2) := by decide +kernel
theorem dL_law_399 : decode cL_law 399 = .ok (.i2l, 1) := by decide +kernel
theorem dL_law_400 : decode cL_law 400 = .ok (.lcmp, 1) := by decide +kernel
theorem dL_law_401 : decode cL_law 401 = .ok (.ifCond .eq 5, 3) := by decide +kernel
theorem dL_law_404 : decode cL_law 404 = .ok (.iconst 0, 1) := by decide +kernel
theorem dL_law_405 : decode cL_law 405 = .ok (.ireturn, 1) := by decide +kernel
theorem dL_law_406 : decode cL_law 406 = .ok (.goto 1291, 3) := by decide +kernel
theorem dL_law_409 : decode cL_law 409 = .ok (.aload_n 1, 1) := by decide +kernel
theorem dL_law_410 : decode cL_law 410 = .ok (.aload_n 0, 1) := by decide +kernel
theorem dL_law_411 : decode cL_law 411 = .ok (.iload 4, 2) := by decide +kernel
theorem dL_law_413 : decode cL_law 413 = .ok (.iconst 1, 1) := by decide +kernel
theorem dL_law_414 : decode cL_law 414 = .ok (.iadd, 1) := by decide +kernel
theorem dL_law_415 : decode cL_law 415 = .ok (.iaload, 1) := by decide +kernel
theorem dL_law_416 : decode cL_law 416 = .ok (.aload_n 0, 1) := by decide +kernel
theorem dL_law_417 : decode cL_law 417 = .ok (.iload 4, 2) := by decide +kernel
theorem dL_law_419 : decode cL_law 419 = .ok (.iconst 2, 1) := by decide +kernel
theorem dL_law_420 : decode cL_law 420 = .ok (.iadd, 1) := by decide +kernel
theorem dL_law_421 : decode cL_law 421 = .ok (.iaload, 1) := by decide +kernel
theorem dL_law_422 : decode cL_law 422 = .ok (.aload_n 3, 1) := by decide +kernel
theorem dL_law_423 : decode cL_law 423 = .ok (.invokestatic 110, 3) := by decide +kernel
theorem dL_law_426 : decode cL_law 426 = .ok (.istore 5, 2) := by decide +kernel
theorem dL_law_428 : decode cL_law 428 = .ok (.aload_n 2, 1) := by decide +kernel
theorem dL_law_429 : decode cL_law 429 = .ok (.aload_n 0, 1) := by decide +kernel
theorem dL_law_430 : decode cL_law 430 = .ok (.iload 4, 2) := by decide +kernel
theorem dL_law_432 : decode cL_law 432 = .ok (.iconst 1, 1) := by decide +kernel
theorem dL_law_433 : decode cL_law 433 = .ok (.iadd, 1) := by decide +kernel
theorem dL_law_434 : decode cL_law 434 = .ok (.iaload, 1) := by decide +kernel
theorem dL_law_435 : decode cL_law 435 = .ok (.aload_n 0, 1) := by decide +kernel
theorem dL_law_436 : decode cL_law 436 = .ok (.iload 4, 2) := by decide +kernel
theorem dL_law_438 : decode cL_law 438 = .ok (.iconst 2, 1) := by decide +kernel
theorem dL_law_439 : decode cL_law 439 = .ok (.iadd, 1) := by decide +kernel
theorem dL_law_440 : decode cL_law 440 = .ok (.iaload, 1) := by decide +kernel
theorem dL_law_441 : decode cL_law 441 = .ok (.invokevirtual 113, 3) := by decide +kernel
theorem dL_law_444 : decode cL_law 444 = .ok (.istore 6, 2) := by decide +kernel
theorem dL_law_446 : decode cL_law 446 = .ok (.aload_n 2, 1) := by decide +kernel
theorem dL_law_447 : decode cL_law 447 = .ok (.invokevirtual 100, 3) := by decide +kernel
theorem dL_law_450 : decode cL_law 450 = .ok (.iload 5, 2) := by decide +kernel
theorem dL_law_452 : decode cL_law 452 = .ok (.if_icmp .eq 5, 3) := by decide +kernel
theorem dL_law_455 : decode cL_law 455 = .ok (.iconst 0, 1) := by decide +kernel
theorem dL_law_456 : decode cL_law 456 = .ok (.ireturn, 1) := by decide +kernel
theorem dL_law_457 : decode cL_law 457 = .ok (.iload 5, 2) := by decide +kernel
theorem dL_law_459 : decode cL_law 459 = .ok (.ifCond .ne 15, 3) := by decide +kernel
theorem dL_law_462 : decode cL_law 462 = .ok (.aload_n 3, 1) := by decide +kernel
theorem dL_law_463 : decode cL_law 463 = .ok (.iconst 0, 1) := by decide +kernel
theorem dL_law_464 : decode cL_law 464 = .ok (.laload, 1) := by decide +kernel
theorem dL_law_465 : decode cL_law 465 = .ok (.iload 6, 2) := by decide +kernel
theorem dL_law_467 : decode cL_law 467 = .ok (.i2l, 1) := by decide +kernel
theorem dL_law_468 : decode cL_law 468 = .ok (.lcmp, 1) := by decide +kernel
theorem dL_law_469 : decode cL_law 469 = .ok (.ifCond .eq 5, 3) := by decide +kernel
theorem dL_law_472 : decode cL_law 472 = .ok (.iconst 0, 1) := by decide +kernel
theorem dL_law_473 : decode cL_law 473 = .ok (.ireturn, 1) := by decide +kernel
theorem dL_law_474 : decode cL_law 474 = .ok (.goto 1223, 3) := by decide +kernel
theorem dL_law_477 : decode cL_law 477 = .ok (.aload_n 1, 1) := by decide +kernel
theorem dL_law_478 : decode cL_law 478 = .ok (.aload_n 0, 1) := by decide +kernel
theorem dL_law_479 : decode cL_law 479 = .ok (.iload 4, 2) := by decide +kernel
theorem dL_law_481 : decode cL_law 481 = .ok (.iconst 1, 1) := by decide +kernel
theorem dL_law_482 : decode cL_law 482 = .ok (.iadd, 1) := by decide +kernel
theorem dL_law_483 : decode cL_law 483 = .ok (.iaload, 1) := by decide +kernel
theorem dL_law_484 : decode cL_law 484 = .ok (.aload_n 0, 1) := by decide +kernel
theorem dL_law_485 : decode cL_law 485 = .ok (.iload 4, 2) := by decide +kernel
theorem dL_law_487 : decode cL_law 487 = .ok (.iconst 2, 1) := by decide +kernel
theorem dL_law_488 : decode cL_law 488 = .ok (.iadd, 1) := by decide +kernel
theorem dL_law_489 : decode cL_law 489 = .ok (.iaload, 1) := by decide +kernel
theorem dL_law_490 : decode cL_law 490 = .ok (.aload_n 3, 1) := by decide +kernel
theorem dL_law_491 : decode cL_law 491 = .ok (.invokestatic 114, 3) := by decide +kernel
theorem dL_law_494 : decode cL_law 494 = .ok (.istore 5, 2) := by decide +kernel
theorem dL_law_496 : decode cL_law 496 = .ok (.aload_n 2, 1) := by decide +kernel
theorem dL_law_497 : decode cL_law 497 = .ok (.aload_n 0, 1) := by decide +kernel
theorem dL_law_498 : decode cL_law 498 = .ok (.iload 4, 2) := by decide +kernel
theorem dL_law_500 : decode cL_law 500 = .ok (.iconst 1, 1) := by decide +kernel
theorem dL_law_501 : decode cL_law 501 = .ok (.iadd, 1) := by decide +kernel
theorem dL_law_502 : decode cL_law 502 = .ok (.iaload, 1) := by decide +kernel
theorem dL_law_503 : decode cL_law 503 = .ok (.aload_n 0, 1) := by decide +kernel
theorem dL_law_504 : decode cL_law 504 = .ok (.iload 4, 2) := by decide +kernel
theorem dL_law_506 : decode cL_law 506 = .ok (.iconst 2, 1) := by decide +kernel
theorem dL_law_507 : decode cL_law 507 = .ok (.iadd, 1) := by decide +kernel
theorem dL_law_508 : decode cL_law 508 = .ok (.iaload, 1) := by decide +kernel
theorem dL_law_509 : decode cL_law 509 = .ok (.invokevirtual 116, 3) := by decide +kernel
theorem dL_law_512 : decode cL_law 512 = .ok (.istore 6, 2) := by decide +kernel
theorem dL_law_514 : decode cL_law 514 = .ok (.aload_n 2, 1) := by decide +kernel
theorem dL_law_515 : decode cL_law 515 = .ok (.invokevirtual 100, 3) := by decide +kernel
theorem dL_law_518 : decode cL_law 518 = .ok (.iload 5, 2) := by decide +kernel
theorem dL_law_520 : decode cL_law 520 = .ok (.if_icmp .eq 5, 3) := by decide +kernel
theorem dL_law_523 : decode cL_law 523 = .ok (.iconst 0, 1) := by decide +kernel
theorem dL_law_524 : decode cL_law 524 = .ok (.ireturn, 1) := by decide +kernel
theorem dL_law_525 : decode cL_law 525 = .ok (.iload 5, 2) := by decide +kernel
theorem dL_law_527 : decode cL_law 527 = .ok (.ifCond .ne 15, 3) := by decide +kernel
theorem dL_law_530 : decode cL_law 530 = .ok (.aload_n 3, 1) := by decide +kernel
theorem dL_law_531 : decode cL_law 531 = .ok (.iconst 0, 1) := by decide +kernel
theorem dL_law_532 : decode cL_law 532 = .ok (.laload, 1) := by decide +kernel
theorem dL_law_533 : decode cL_law 533 = .ok (.iload 6, 2) := by decide +kernel
theorem dL_law_535 : decode cL_law 535 = .ok (.i2l, 1) := by decide +kernel
theorem dL_law_536 : decode cL_law 536 = .ok (.lcmp, 1) := by decide +kernel
theorem dL_law_537 : decode cL_law 537 = .ok (.ifCond .eq 5, 3) := by decide +kernel
theorem dL_law_540 : decode cL_law 540 = .ok (.iconst 0, 1) := by decide +kernel
theorem dL_law_541 : decode cL_law 541 = .ok (.ireturn, 1) := by decide +kernel
theorem dL_law_542 : decode cL_law 542 = .ok (.goto 1155, 3) := by decide +kernel
theorem dL_law_545 : decode cL_law 545 = .ok (.aload_n 1, 1) := by decide +kernel
theorem dL_law_546 : decode cL_law 546 = .ok (.aload_n 0, 1) := by decide +kernel
theorem dL_law_547 : decode cL_law 547 = .ok (.iload 4, 2) := by decide +kernel
theorem dL_law_549 : decode cL_law 549 = .ok (.iconst 1, 1) := by decide +kernel
theorem dL_law_550 : decode cL_law 550 = .ok (.iadd, 1) := by decide +kernel
theorem dL_law_551 : decode cL_law 551 = .ok (.iaload, 1) := by decide +kernel
theorem dL_law_552 : decode cL_law 552 = .ok (.aload_n 3, 1) := by decide +kernel
theorem dL_law_553 : decode cL_law 553 = .ok (.invokestatic 117, 3) := by decide +kernel
theorem dL_law_556 : decode cL_law 556 = .ok (.istore 5, 2) := by decide +kernel
theorem dL_law_558 : decode cL_law 558 = .ok (.aload_n 2, 1) := by decide +kernel
theorem dL_law_559 : decode cL_law 559 = .ok (.aload_n 0, 1) := by decide +kernel
theorem dL_law_560 : decode cL_law 560 = .ok (.iload 4, 2) := by decide +kernel
theorem dL_law_562 : decode cL_law 562 = .ok (.iconst 1, 1) := by decide +kernel
theorem dL_law_563 : decode cL_law 563 = .ok (.iadd, 1) := by decide +kernel
theorem dL_law_564 : decode cL_law 564 = .ok (.iaload, 1) := by decide +kernel
theorem dL_law_565 : decode cL_law 565 = .ok (.invokevirtual 119, 3) := by decide +kernel
theorem dL_law_568 : decode cL_law 568 = .ok (.lstore 6, 2) := by decide +kernel
theorem dL_law_570 : decode cL_law 570 = .ok (.aload_n 2, 1) := by decide +kernel
theorem dL_law_571 : decode cL_law 571 = .ok (.invokevirtual 100, 3) := by decide +kernel
theorem dL_law_574 : decode cL_law 574 = .ok (.iload 5, 2) := by decide +kernel
theorem dL_law_576 : decode cL_law 576 = .ok (.if_icmp .eq 5, 3) := by decide +kernel
theorem dL_law_579 : decode cL_law 579 = .ok (.iconst 0, 1) := by decide +kernel
theorem dL_law_580 : decode cL_law 580 = .ok (.ireturn, 1) := by decide +kernel
theorem dL_law_581 : decode cL_law 581 = .ok (.iload 5, 2) := by decide +kernel
theorem dL_law_583 : decode cL_law 583 = .ok (.ifCond .ne 14, 3) := by decide +kernel
theorem dL_law_586 : decode cL_law 586 = .ok (.aload_n 3, 1) := by decide +kernel
theorem dL_law_587 : decode cL_law 587 = .ok (.iconst 0, 1) := by decide +kernel
theorem dL_law_588 : decode cL_law 588 = .ok (.laload, 1) := by decide +kernel
theorem dL_law_589 : decode cL_law 589 = .ok (.lload 6, 2) := by decide +kernel
theorem dL_law_591 : decode cL_law 591 = .ok (.lcmp, 1) := by decide +kernel
theorem dL_law_592 : decode cL_law 592 = .ok (.ifCond .eq 5, 3) := by decide +kernel
theorem dL_law_595 : decode cL_law 595 = .ok (.iconst 0, 1) := by decide +kernel
theorem dL_law_596 : decode cL_law 596 = .ok (.ireturn, 1) := by decide +kernel
theorem dL_law_597 : decode cL_law 597 = .ok (.goto 1100, 3) := by decide +kernel
theorem dL_law_600 : decode cL_law 600 = .ok (.aload_n 1, 1) := by decide +kernel
theorem dL_law_601 : decode cL_law 601 = .ok (.aload_n 0, 1) := by decide +kernel
theorem dL_law_602 : decode cL_law 602 = .ok (.iload 4, 2) := by decide +kernel
theorem dL_law_604 : decode cL_law 604 = .ok (.iconst 1, 1) := by decide +kernel
theorem dL_law_605 : decode cL_law 605 = .ok (.iadd, 1) := by decide +kernel
theorem dL_law_606 : decode cL_law 606 = .ok (.iaload, 1) := by decide +kernel
theorem dL_law_607 : decode cL_law 607 = .ok (.aload_n 0, 1) := by decide +kernel
theorem dL_law_608 : decode cL_law 608 = .ok (.iload 4, 2) := by decide +kernel
theorem dL_law_610 : decode cL_law 610 = .ok (.iconst 2, 1) := by decide +kernel
theorem dL_law_611 : decode cL_law 611 = .ok (.iadd, 1) := by decide +kernel
theorem dL_law_612 : decode cL_law 612 = .ok (.iaload, 1) := by decide +kernel
theorem dL_law_613 : decode cL_law 613 = .ok (.aload_n 0, 1) := by decide +kernel
theorem dL_law_614 : decode cL_law 614 = .ok (.iload 4, 2) := by decide +kernel
theorem dL_law_616 : decode cL_law 616 = .ok (.iconst 3, 1) := by decide +kernel
theorem dL_law_617 : decode cL_law 617 = .ok (.iadd, 1) := by decide +kernel
theorem dL_law_618 : decode cL_law 618 = .ok (.iaload, 1) := by decide +kernel
theorem dL_law_619 : decode cL_law 619 = .ok (.aload_n 3, 1) := by decide +kernel
theorem dL_law_620 : decode cL_law 620 = .ok (.invokestatic 120, 3) := by decide +kernel
theorem dL_law_623 : decode cL_law 623 = .ok (.istore 5, 2) := by decide +kernel
theorem dL_law_625 : decode cL_law 625 = .ok (.aload_n 2, 1) := by decide +kernel
theorem dL_law_626 : decode cL_law 626 = .ok (.aload_n 0, 1) := by decide +kernel
theorem dL_law_627 : decode cL_law 627 = .ok (.iload 4, 2) := by decide +kernel
theorem dL_law_629 : decode cL_law 629 = .ok (.iconst 1, 1) := by decide +kernel
theorem dL_law_630 : decode cL_law 630 = .ok (.iadd, 1) := by decide +kernel
theorem dL_law_631 : decode cL_law 631 = .ok (.iaload, 1) := by decide +kernel
theorem dL_law_632 : decode cL_law 632 = .ok (.aload_n 0, 1) := by decide +kernel
theorem dL_law_633 : decode cL_law 633 = .ok (.iload 4, 2) := by decide +kernel
theorem dL_law_635 : decode cL_law 635 = .ok (.iconst 2, 1) := by decide +kernel
theorem dL_law_636 : decode cL_law 636 = .ok (.iadd, 1) := by decide +kernel
theorem dL_law_637 : decode cL_law 637 = .ok (.iaload, 1) := by decide +kernel
theorem dL_law_638 : decode cL_law 638 = .ok (.aload_n 0, 1) := by decide +kernel
theorem dL_law_639 : decode cL_law 639 = .ok (.iload 4, 2) := by decide +kernel
theorem dL_law_641 : decode cL_law 641 = .ok (.iconst 3, 1) := by decide +kernel
theorem dL_law_642 : decode cL_law 642 = .ok (.iadd, 1) := by decide +kernel
theorem dL_law_643 : decode cL_law 643 = .ok (.iaload, 1) := by decide +kernel
theorem dL_law_644 : decode cL_law 644 = .ok (.invokevirtual 123, 3) := by decide +kernel
theorem dL_law_647 : decode cL_law 647 = .ok (.istore 6, 2) := by decide +kernel
theorem dL_law_649 : decode cL_law 649 = .ok (.aload_n 2, 1) := by decide +kernel
theorem dL_law_650 : decode cL_law 650 = .ok (.invokevirtual 100, 3) := by decide +kernel
theorem dL_law_653 : decode cL_law 653 = .ok (.iload 5, 2) := by decide +kernel
theorem dL_law_655 : decode cL_law 655 = .ok (.if_icmp .eq 5, 3) := by decide +kernel
theorem dL_law_658 : decode cL_law 658 = .ok (.iconst 0, 1) := by decide +kernel
theorem dL_law_659 : decode cL_law 659 = .ok (.ireturn, 1) := by decide +kernel
theorem dL_law_660 : decode cL_law 660 = .ok (.iload 5, 2) := by decide +kernel
theorem dL_law_662 : decode cL_law 662 = .ok (.ifCond .ne 15, 3) := by decide +kernel
theorem dL_law_665 : decode cL_law 665 = .ok (.aload_n 3, 1) := by decide +kernel
theorem dL_law_666 : decode cL_law 666 = .ok (.iconst 0, 1) := by decide +kernel
theorem dL_law_667 : decode cL_law 667 = .ok (.laload, 1) := by decide +kernel
theorem dL_law_668 : decode cL_law 668 = .ok (.iload 6, 2) := by decide +kernel
theorem dL_law_670 : decode cL_law 670 = .ok (.i2l, 1) := by decide +kernel
theorem dL_law_671 : decode cL_law 671 = .ok (.lcmp, 1) := by decide +kernel
theorem dL_law_672 : decode cL_law 672 = .ok (.ifCond .eq 5, 3) := by decide +kernel
theorem dL_law_675 : decode cL_law 675 = .ok (.iconst 0, 1) := by decide +kernel
theorem dL_law_676 : decode cL_law 676 = .ok (.ireturn, 1) := by decide +kernel
theorem dL_law_677 : decode cL_law 677 = .ok (.goto 1020, 3) := by decide +kernel
theorem dL_law_680 : decode cL_law 680 = .ok (.aload_n 1, 1) := by decide +kernel
theorem dL_law_681 : decode cL_law 681 = .ok (.aload_n 0, 1) := by decide +kernel
theorem dL_law_682 : decode cL_law 682 = .ok (.iload 4, 2) := by decide +kernel
theorem dL_law_684 : decode cL_law 684 = .ok (.iconst 1, 1) := by decide +kernel
theorem dL_law_685 : decode cL_law 685 = .ok (.iadd, 1) := by decide +kernel
theorem dL_law_686 : decode cL_law 686 = .ok (.iaload, 1) := by decide +kernel
theorem dL_law_687 : decode cL_law 687 = .ok (.aload_n 0, 1) := by decide +kernel
theorem dL_law_688 : decode cL_law 688 = .ok (.iload 4, 2) := by decide +kernel
theorem dL_law_690 : decode cL_law 690 = .ok (.iconst 2, 1) := by decide +kernel
theorem dL_law_691 : decode cL_law 691 = .ok (.iadd, 1) := by decide +kernel
theorem dL_law_692 : decode cL_law 692 = .ok (.iaload, 1) := by decide +kernel
theorem dL_law_693 : decode cL_law 693 = .ok (.aload_n 3, 1) := by decide +kernel
theorem dL_law_694 : decode cL_law 694 = .ok (.invokestatic 124, 3) := by decide +kernel
theorem dL_law_697 : decode cL_law 697 = .ok (.istore 5, 2) := by decide +kernel
theorem dL_law_699 : decode cL_law 699 = .ok (.aload_n 2, 1) := by decide +kernel
theorem dL_law_700 : decode cL_law 700 = .ok (.aload_n 0, 1) := by decide +kernel
theorem dL_law_701 : decode cL_law 701 = .ok (.iload 4, 2) := by decide +kernel
theorem dL_law_703 : decode cL_law 703 = .ok (.iconst 1, 1) := by decide +kernel
theorem dL_law_704 : decode cL_law 704 = .ok (.iadd, 1) := by decide +kernel
theorem dL_law_705 : decode cL_law 705 = .ok (.iaload, 1) := by decide +kernel
theorem dL_law_706 : decode cL_law 706 = .ok (.aload_n 0, 1) := by decide +kernel
theorem dL_law_707 : decode cL_law 707 = .ok (.iload 4, 2) := by decide +kernel
theorem dL_law_709 : decode cL_law 709 = .ok (.iconst 2, 1) := by decide +kernel
theorem dL_law_710 : decode cL_law 710 = .ok (.iadd, 1) := by decide +kernel
theorem dL_law_711 : decode cL_law 711 = .ok (.iaload, 1) := by decide +kernel
theorem dL_law_712 : decode cL_law 712 = .ok (.invokevirtual 126, 3) := by decide +kernel
theorem dL_law_715 : decode cL_law 715 = .ok (.istore 6, 2) := by decide +kernel
theorem dL_law_717 : decode cL_law 717 = .ok (.aload_n 2, 1) := by decide +kernel
theorem dL_law_718 : decode cL_law 718 = .ok (.invokevirtual 100, 3) := by decide +kernel
theorem dL_law_721 : decode cL_law 721 = .ok (.iload 5, 2) := by decide +kernel
theorem dL_law_723 : decode cL_law 723 = .ok (.if_icmp .eq 5, 3) := by decide +kernel
theorem dL_law_726 : decode cL_law 726 = .ok (.iconst 0, 1) := by decide +kernel
theorem dL_law_727 : decode cL_law 727 = .ok (.ireturn, 1) := by decide +kernel
theorem dL_law_728 : decode cL_law 728 = .ok (.iload 5, 2) := by decide +kernel
theorem dL_law_730 : decode cL_law 730 = .ok (.ifCond .ne 15, 3) := by decide +kernel
theorem dL_law_733 : decode cL_law 733 = .ok (.aload_n 3, 1) := by decide +kernel
theorem dL_law_734 : decode cL_law 734 = .ok (.iconst 0, 1) := by decide +kernel
theorem dL_law_735 : decode cL_law 735 = .ok (.laload, 1) := by decide +kernel
theorem dL_law_736 : decode cL_law 736 = .ok (.iload 6, 2) := by decide +kernel
theorem dL_law_738 : decode cL_law 738 = .ok (.i2l, 1) := by decide +kernel
theorem dL_law_739 : decode cL_law 739 = .ok (.lcmp, 1) := by decide +kernel
theorem dL_law_740 : decode cL_law 740 = .ok (.ifCond .eq 5, 3) := by decide +kernel
theorem dL_law_743 : decode cL_law 743 = .ok (.iconst 0, 1) := by decide +kernel
theorem dL_law_744 : decode cL_law 744 = .ok (.ireturn, 1) := by decide +kernel
theorem dL_law_745 : decode cL_law 745 = .ok (.goto 952, 3) := by decide +kernel
theorem dL_law_748 : decode cL_law 748 = .ok (.aload_n 1, 1) := by decide +kernel
theorem dL_law_749 : decode cL_law 749 = .ok (.aload_n 0, 1) := by decide +kernel
theorem dL_law_750 : decode cL_law 750 = .ok (.iload 4, 2) := by decide +kernel
theorem dL_law_752 : decode cL_law 752 = .ok (.iconst 1, 1) := by decide +kernel
theorem dL_law_753 : decode cL_law 753 = .ok (.iadd, 1) := by decide +kernel
theorem dL_law_754 : decode cL_law 754 = .ok (.iaload, 1) := by decide +kernel
theorem dL_law_755 : decode cL_law 755 = .ok (.aload_n 0, 1) := by decide +kernel
theorem dL_law_756 : decode cL_law 756 = .ok (.iload 4, 2) := by decide +kernel
theorem dL_law_758 : decode cL_law 758 = .ok (.iconst 2, 1) := by decide +kernel
theorem dL_law_759 : decode cL_law 759 = .ok (.iadd, 1) := by decide +kernel
theorem dL_law_760 : decode cL_law 760 = .ok (.iaload, 1) := by decide +kernel
theorem dL_law_761 : decode cL_law 761 = .ok (.aload_n 3, 1) := by decide +kernel
theorem dL_law_762 : decode cL_law 762 = .ok (.invokestatic 127, 3) := by decide +kernel
theorem dL_law_765 : decode cL_law 765 = .ok (.istore 5, 2) := by decide +kernel
theorem dL_law_767 : decode cL_law 767 = .ok (.aload_n 2, 1) := by decide +kernel
theorem dL_law_768 : decode cL_law 768 = .ok (.aload_n 0, 1) := by decide +kernel
theorem dL_law_769 : decode cL_law 769 = .ok (.iload 4, 2) := by decide +kernel
theorem dL_law_771 : decode cL_law 771 = .ok (.iconst 1, 1) := by decide +kernel
theorem dL_law_772 : decode cL_law 772 = .ok (.iadd, 1) := by decide +kernel
theorem dL_law_773 : decode cL_law 773 = .ok (.iaload, 1) := by decide +kernel
theorem dL_law_774 : decode cL_law 774 = .ok (.aload_n 0, 1) := by decide +kernel
theorem dL_law_775 : decode cL_law 775 = .ok (.iload 4, 2) := by decide +kernel
theorem dL_law_777 : decode cL_law 777 = .ok (.iconst 2, 1) := by decide +kernel
theorem dL_law_778 : decode cL_law 778 = .ok (.iadd, 1) := by decide +kernel
theorem dL_law_779 : decode cL_law 779 = .ok (.iaload, 1) := by decide +kernel
theorem dL_law_780 : decode cL_law 780 = .ok (.invokevirtual 129, 3) := by decide +kernel
theorem dL_law_783 : decode cL_law 783 = .ok (.istore 6, 2) := by decide +kernel
theorem dL_law_785 : decode cL_law 785 = .ok (.aload_n 2, 1) := by decide +kernel
theorem dL_law_786 : decode cL_law 786 = .ok (.invokevirtual 100, 3) := by decide +kernel
theorem dL_law_789 : decode cL_law 789 = .ok (.iload 5, 2) := by decide +kernel
theorem dL_law_791 : decode cL_law 791 = .ok (.if_icmp .eq 5, 3) := by decide +kernel
theorem dL_law_794 : decode cL_law 794 = .ok (.iconst 0, 1) := by decide +kernel
theorem dL_law_795 : decode cL_law 795 = .ok (.ireturn, 1) := by decide +kernel
theorem dL_law_796 : decode cL_law 796 = .ok (.iload 5, 2) := by decide +kernel
theorem dL_law_798 : decode cL_law 798 = .ok (.ifCond .ne 15, 3) := by decide +kernel
theorem dL_law_801 : decode cL_law 801 = .ok (.aload_n 3, 1) := by decide +kernel
theorem dL_law_802 : decode cL_law 802 = .ok (.iconst 0, 1) := by decide +kernel
theorem dL_law_803 : decode cL_law 803 = .ok (.laload, 1) := by decide +kernel
theorem dL_law_804 : decode cL_law 804 = .ok (.iload 6, 2) := by decide +kernel
theorem dL_law_806 : decode cL_law 806 = .ok (.i2l, 1) := by decide +kernel
theorem dL_law_807 : decode cL_law 807 = .ok (.lcmp, 1) := by decide +kernel
theorem dL_law_808 : decode cL_law 808 = .ok (.ifCond .eq 5, 3) := by decide +kernel
theorem dL_law_811 : decode cL_law 811 = .ok (.iconst 0, 1) := by decide +kernel
theorem dL_law_812 : decode cL_law 812 = .ok (.ireturn, 1) := by decide +kernel
theorem dL_law_813 : decode cL_law 813 = .ok (.goto 884, 3) := by decide +kernel
theorem dL_law_816 : decode cL_law 816 = .ok (.aload_n 1, 1) := by decide +kernel
theorem dL_law_817 : decode cL_law 817 = .ok (.aload_n 0, 1) := by decide +kernel
theorem dL_law_818 : decode cL_law 818 = .ok (.iload 4, 2) := by decide +kernel
theorem dL_law_820 : decode cL_law 820 = .ok (.iconst 1, 1) := by decide +kernel
theorem dL_law_821 : decode cL_law 821 = .ok (.iadd, 1) := by decide +kernel
theorem dL_law_822 : decode cL_law 822 = .ok (.iaload, 1) := by decide +kernel
theorem dL_law_823 : decode cL_law 823 = .ok (.aload_n 3, 1) := by decide +kernel
theorem dL_law_824 : decode cL_law 824 = .ok (.invokestatic 130, 3) := by decide +kernel
theorem dL_law_827 : decode cL_law 827 = .ok (.istore 5, 2) := by decide +kernel
theorem dL_law_829 : decode cL_law 829 = .ok (.aload_n 2, 1) := by decide +kernel
theorem dL_law_830 : decode cL_law 830 = .ok (.aload_n 0, 1) := by decide +kernel
theorem dL_law_831 : decode cL_law 831 = .ok (.iload 4, 2) := by decide +kernel
theorem dL_law_833 : decode cL_law 833 = .ok (.iconst 1, 1) := by decide +kernel
theorem dL_law_834 : decode cL_law 834 = .ok (.iadd, 1) := by decide +kernel
theorem dL_law_835 : decode cL_law 835 = .ok (.iaload, 1) := by decide +kernel
theorem dL_law_836 : decode cL_law 836 = .ok (.invokevirtual 132, 3) := by decide +kernel
theorem dL_law_839 : decode cL_law 839 = .ok (.istore 6, 2) := by decide +kernel
theorem dL_law_841 : decode cL_law 841 = .ok (.aload_n 2, 1) := by decide +kernel
theorem dL_law_842 : decode cL_law 842 = .ok (.invokevirtual 100, 3) := by decide +kernel
theorem dL_law_845 : decode cL_law 845 = .ok (.iload 5, 2) := by decide +kernel
theorem dL_law_847 : decode cL_law 847 = .ok (.if_icmp .eq 5, 3) := by decide +kernel
theorem dL_law_850 : decode cL_law 850 = .ok (.iconst 0, 1) := by decide +kernel
theorem dL_law_851 : decode cL_law 851 = .ok (.ireturn, 1) := by decide +kernel
theorem dL_law_852 : decode cL_law 852 = .ok (.iload 5, 2) := by decide +kernel
theorem dL_law_854 : decode cL_law 854 = .ok (.ifCond .ne 15, 3) := by decide +kernel
theorem dL_law_857 : decode cL_law 857 = .ok (.aload_n 3, 1) := by decide +kernel
theorem dL_law_858 : decode cL_law 858 = .ok (.iconst 0, 1) := by decide +kernel
theorem dL_law_859 : decode cL_law 859 = .ok (.laload, 1) := by decide +kernel
theorem dL_law_860 : decode cL_law 860 = .ok (.iload 6, 2) := by decide +kernel
theorem dL_law_862 : decode cL_law 862 = .ok (.i2l, 1) := by decide +kernel
theorem dL_law_863 : decode cL_law 863 = .ok (.lcmp, 1) := by decide +kernel
theorem dL_law_864 : decode cL_law 864 = .ok (.ifCond .eq 5, 3) := by decide +kernel
theorem dL_law_867 : decode cL_law 867 = .ok (.iconst 0, 1) := by decide +kernel
theorem dL_law_868 : decode cL_law 868 = .ok (.ireturn, 1) := by decide +kernel
theorem dL_law_869 : decode cL_law 869 = .ok (.goto 828, 3) := by decide +kernel
theorem dL_law_872 : decode cL_law 872 = .ok (.aload_n 1, 1) := by decide +kernel
theorem dL_law_873 : decode cL_law 873 = .ok (.aload_n 0, 1) := by decide +kernel
theorem dL_law_874 : decode cL_law 874 = .ok (.iload 4, 2) := by decide +kernel
theorem dL_law_876 : decode cL_law 876 = .ok (.iconst 1, 1) := by decide +kernel
theorem dL_law_877 : decode cL_law 877 = .ok (.iadd, 1) := by decide +kernel
theorem dL_law_878 : decode cL_law 878 = .ok (.iaload, 1) := by decide +kernel
theorem dL_law_879 : decode cL_law 879 = .ok (.aload_n 3, 1) := by decide +kernel
theorem dL_law_880 : decode cL_law 880 = .ok (.invokestatic 133, 3) := by decide +kernel
theorem dL_law_883 : decode cL_law 883 = .ok (.istore 5, 2) := by decide +kernel
theorem dL_law_885 : decode cL_law 885 = .ok (.aload_n 2, 1) := by decide +kernel
theorem dL_law_886 : decode cL_law 886 = .ok (.aload_n 0, 1) := by decide +kernel
theorem dL_law_887 : decode cL_law 887 = .ok (.iload 4, 2) := by decide +kernel
theorem dL_law_889 : decode cL_law 889 = .ok (.iconst 1, 1) := by decide +kernel
theorem dL_law_890 : decode cL_law 890 = .ok (.iadd, 1) := by decide +kernel
theorem dL_law_891 : decode cL_law 891 = .ok (.iaload, 1) := by decide +kernel
theorem dL_law_892 : decode cL_law 892 = .ok (.invokevirtual 135, 3) := by decide +kernel
theorem dL_law_895 : decode cL_law 895 = .ok (.istore 6, 2) := by decide +kernel
theorem dL_law_897 : decode cL_law 897 = .ok (.aload_n 2, 1) := by decide +kernel
theorem dL_law_898 : decode cL_law 898 = .ok (.invokevirtual 100, 3) := by decide +kernel
theorem dL_law_901 : decode cL_law 901 = .ok (.iload 5, 2) := by decide +kernel
theorem dL_law_903 : decode cL_law 903 = .ok (.if_icmp .eq 5, 3) := by decide +kernel
theorem dL_law_906 : decode cL_law 906 = .ok (.iconst 0, 1) := by decide +kernel
theorem dL_law_907 : decode cL_law 907 = .ok (.ireturn, 1) := by decide +kernel
theorem dL_law_908 : decode cL_law 908 = .ok (.iload 5, 2) := by decide +kernel
theorem dL_law_910 : decode cL_law 910 = .ok (.ifCond .ne 15, 3) := by decide +kernel
theorem dL_law_913 : decode cL_law 913 = .ok (.aload_n 3, 1) := by decide +kernel
theorem dL_law_914 : decode cL_law 914 = .ok (.iconst 0, 1) := by decide +kernel
theorem dL_law_915 : decode cL_law 915 = .ok (.laload, 1) := by decide +kernel
theorem dL_law_916 : decode cL_law 916 = .ok (.iload 6, 2) := by decide +kernel
theorem dL_law_918 : decode cL_law 918 = .ok (.i2l, 1) := by decide +kernel
theorem dL_law_919 : decode cL_law 919 = .ok (.lcmp, 1) := by decide +kernel
theorem dL_law_920 : decode cL_law 920 = .ok (.ifCond .eq 5, 3) := by decide +kernel
theorem dL_law_923 : decode cL_law 923 = .ok (.iconst 0, 1) := by decide +kernel
theorem dL_law_924 : decode cL_law 924 = .ok (.ireturn, 1) := by decide +kernel
theorem dL_law_925 : decode cL_law 925 = .ok (.goto 772, 3) := by decide +kernel
theorem dL_law_928 : decode cL_law 928 = .ok (.aload_n 1, 1) := by decide +kernel
theorem dL_law_929 : decode cL_law 929 = .ok (.aload_n 0, 1) := by decide +kernel
theorem dL_law_930 : decode cL_law 930 = .ok (.iload 4, 2) := by decide +kernel
theorem dL_law_932 : decode cL_law 932 = .ok (.iconst 1, 1) := by decide +kernel
theorem dL_law_933 : decode cL_law 933 = .ok (.iadd, 1) := by decide +kernel
theorem dL_law_934 : decode cL_law 934 = .ok (.iaload, 1) := by decide +kernel
theorem dL_law_935 : decode cL_law 935 = .ok (.aload_n 3, 1) := by decide +kernel
theorem dL_law_936 : decode cL_law 936 = .ok (.invokestatic 136, 3) := by decide +kernel
theorem dL_law_939 : decode cL_law 939 = .ok (.istore 5, 2) := by decide +kernel
theorem dL_law_941 : decode cL_law 941 = .ok (.aload_n 2, 1) := by decide +kernel
theorem dL_law_942 : decode cL_law 942 = .ok (.aload_n 0, 1) := by decide +kernel
theorem dL_law_943 : decode cL_law 943 = .ok (.iload 4, 2) := by decide +kernel
theorem dL_law_945 : decode cL_law 945 = .ok (.iconst 1, 1) := by decide +kernel
theorem dL_law_946 : decode cL_law 946 = .ok (.iadd, 1) := by decide +kernel
theorem dL_law_947 : decode cL_law 947 = .ok (.iaload, 1) := by decide +kernel
theorem dL_law_948 : decode cL_law 948 = .ok (.invokevirtual 138, 3) := by decide +kernel
theorem dL_law_951 : decode cL_law 951 = .ok (.istore 6, 2) := by decide +kernel
theorem dL_law_953 : decode cL_law 953 = .ok (.aload_n 2, 1) := by decide +kernel
theorem dL_law_954 : decode cL_law 954 = .ok (.invokevirtual 100, 3) := by decide +kernel
theorem dL_law_957 : decode cL_law 957 = .ok (.iload 5, 2) := by decide +kernel
theorem dL_law_959 : decode cL_law 959 = .ok (.if_icmp .eq 5, 3) := by decide +kernel
theorem dL_law_962 : decode cL_law 962 = .ok (.iconst 0, 1) := by decide +kernel
theorem dL_law_963 : decode cL_law 963 = .ok (.ireturn, 1) := by decide +kernel
theorem dL_law_964 : decode cL_law 964 = .ok (.iload 5, 2) := by decide +kernel
theorem dL_law_966 : decode cL_law 966 = .ok (.ifCond .ne 15, 3) := by decide +kernel
theorem dL_law_969 : decode cL_law 969 = .ok (.aload_n 3, 1) := by decide +kernel
theorem dL_law_970 : decode cL_law 970 = .ok (.iconst 0, 1) := by decide +kernel
theorem dL_law_971 : decode cL_law 971 = .ok (.laload, 1) := by decide +kernel
theorem dL_law_972 : decode cL_law 972 = .ok (.iload 6, 2) := by decide +kernel
theorem dL_law_974 : decode cL_law 974 = .ok (.i2l, 1) := by decide +kernel
theorem dL_law_975 : decode cL_law 975 = .ok (.lcmp, 1) := by decide +kernel
theorem dL_law_976 : decode cL_law 976 = .ok (.ifCond .eq 5, 3) := by decide +kernel
theorem dL_law_979 : decode cL_law 979 = .ok (.iconst 0, 1) := by decide +kernel
theorem dL_law_980 : decode cL_law 980 = .ok (.ireturn, 1) := by decide +kernel
theorem dL_law_981 : decode cL_law 981 = .ok (.goto 716, 3) := by decide +kernel
theorem dL_law_984 : decode cL_law 984 = .ok (.aload_n 1, 1) := by decide +kernel
theorem dL_law_985 : decode cL_law 985 = .ok (.invokevirtual 139, 3) := by decide +kernel
theorem dL_law_988 : decode cL_law 988 = .ok (.aload_n 2, 1) := by decide +kernel
theorem dL_law_989 : decode cL_law 989 = .ok (.invokevirtual 142, 3) := by decide +kernel
theorem dL_law_992 : decode cL_law 992 = .ok (.if_icmp .eq 705, 3) := by decide +kernel
theorem dL_law_995 : decode cL_law 995 = .ok (.iconst 0, 1) := by decide +kernel
theorem dL_law_996 : decode cL_law 996 = .ok (.ireturn, 1) := by decide +kernel
theorem dL_law_997 : decode cL_law 997 = .ok (.aload_n 1, 1) := by decide +kernel
theorem dL_law_998 : decode cL_law 998 = .ok (.aload_n 0, 1) := by decide +kernel
theorem dL_law_999 : decode cL_law 999 = .ok (.iload 4, 2) := by decide +kernel
theorem dL_law_1001 : decode cL_law 1001 = .ok (.iconst 1, 1) := by decide +kernel
theorem dL_law_1002 : decode cL_law 1002 = .ok (.iadd, 1) := by decide +kernel
theorem dL_law_1003 : decode cL_law 1003 = .ok (.iaload, 1) := by decide +kernel
theorem dL_law_1004 : decode cL_law 1004 = .ok (.aload_n 3, 1) := by decide +kernel
theorem dL_law_1005 : decode cL_law 1005 = .ok (.invokestatic 143, 3) := by decide +kernel
theorem dL_law_1008 : decode cL_law 1008 = .ok (.istore 5, 2) := by decide +kernel
theorem dL_law_1010 : decode cL_law 1010 = .ok (.aload_n 2, 1) := by decide +kernel
theorem dL_law_1011 : decode cL_law 1011 = .ok (.aload_n 0, 1) := by decide +kernel
theorem dL_law_1012 : decode cL_law 1012 = .ok (.iload 4, 2) := by decide +kernel
theorem dL_law_1014 : decode cL_law 1014 = .ok (.iconst 1, 1) := by decide +kernel
theorem dL_law_1015 : decode cL_law 1015 = .ok (.iadd, 1) := by decide +kernel
theorem dL_law_1016 : decode cL_law 1016 = .ok (.iaload, 1) := by decide +kernel
theorem dL_law_1017 : decode cL_law 1017 = .ok (.invokevirtual 145, 3) := by decide +kernel
theorem dL_law_1020 : decode cL_law 1020 = .ok (.istore 6, 2) := by decide +kernel
theorem dL_law_1022 : decode cL_law 1022 = .ok (.aload_n 2, 1) := by decide +kernel
theorem dL_law_1023 : decode cL_law 1023 = .ok (.invokevirtual 100, 3) := by decide +kernel
theorem dL_law_1026 : decode cL_law 1026 = .ok (.iload 5, 2) := by decide +kernel
theorem dL_law_1028 : decode cL_law 1028 = .ok (.if_icmp .eq 5, 3) := by decide +kernel
theorem dL_law_1031 : decode cL_law 1031 = .ok (.iconst 0, 1) := by decide +kernel
theorem dL_law_1032 : decode cL_law 1032 = .ok (.ireturn, 1) := by decide +kernel
theorem dL_law_1033 : decode cL_law 1033 = .ok (.iload 5, 2) := by decide +kernel
theorem dL_law_1035 : decode cL_law 1035 = .ok (.ifCond .ne 15, 3) := by decide +kernel
theorem dL_law_1038 : decode cL_law 1038 = .ok (.aload_n 3, 1) := by decide +kernel
theorem dL_law_1039 : decode cL_law 1039 = .ok (.iconst 0, 1) := by decide +kernel
theorem dL_law_1040 : decode cL_law 1040 = .ok (.laload, 1) := by decide +kernel
theorem dL_law_1041 : decode cL_law 1041 = .ok (.iload 6, 2) := by decide +kernel
theorem dL_law_1043 : decode cL_law 1043 = .ok (.i2l, 1) := by decide +kernel
theorem dL_law_1044 : decode cL_law 1044 = .ok (.lcmp, 1) := by decide +kernel
theorem dL_law_1045 : decode cL_law 1045 = .ok (.ifCond .eq 5, 3) := by decide +kernel
theorem dL_law_1048 : decode cL_law 1048 = .ok (.iconst 0, 1) := by decide +kernel
theorem dL_law_1049 : decode cL_law 1049 = .ok (.ireturn, 1) := by decide +kernel
theorem dL_law_1050 : decode cL_law 1050 = .ok (.goto 647, 3) := by decide +kernel
theorem dL_law_1053 : decode cL_law 1053 = .ok (.aload_n 1, 1) := by decide +kernel
theorem dL_law_1054 : decode cL_law 1054 = .ok (.aload_n 0, 1) := by decide +kernel
theorem dL_law_1055 : decode cL_law 1055 = .ok (.iload 4, 2) := by decide +kernel
theorem dL_law_1057 : decode cL_law 1057 = .ok (.iconst 1, 1) := by decide +kernel
theorem dL_law_1058 : decode cL_law 1058 = .ok (.iadd, 1) := by decide +kernel
theorem dL_law_1059 : decode cL_law 1059 = .ok (.iaload, 1) := by decide +kernel
theorem dL_law_1060 : decode cL_law 1060 = .ok (.aload_n 0, 1) := by decide +kernel
theorem dL_law_1061 : decode cL_law 1061 = .ok (.iload 4, 2) := by decide +kernel
theorem dL_law_1063 : decode cL_law 1063 = .ok (.iconst 2, 1) := by decide +kernel
theorem dL_law_1064 : decode cL_law 1064 = .ok (.iadd, 1) := by decide +kernel
theorem dL_law_1065 : decode cL_law 1065 = .ok (.iaload, 1) := by decide +kernel
theorem dL_law_1066 : decode cL_law 1066 = .ok (.aload_n 3, 1) := by decide +kernel
theorem dL_law_1067 : decode cL_law 1067 = .ok (.invokestatic 146, 3) := by decide +kernel
theorem dL_law_1070 : decode cL_law 1070 = .ok (.istore 5, 2) := by decide +kernel
theorem dL_law_1072 : decode cL_law 1072 = .ok (.aload_n 2, 1) := by decide +kernel
theorem dL_law_1073 : decode cL_law 1073 = .ok (.aload_n 0, 1) := by decide +kernel
theorem dL_law_1074 : decode cL_law 1074 = .ok (.iload 4, 2) := by decide +kernel
theorem dL_law_1076 : decode cL_law 1076 = .ok (.iconst 1, 1) := by decide +kernel
theorem dL_law_1077 : decode cL_law 1077 = .ok (.iadd, 1) := by decide +kernel
theorem dL_law_1078 : decode cL_law 1078 = .ok (.iaload, 1) := by decide +kernel
theorem dL_law_1079 : decode cL_law 1079 = .ok (.aload_n 0, 1) := by decide +kernel
theorem dL_law_1080 : decode cL_law 1080 = .ok (.iload 4, 2) := by decide +kernel
theorem dL_law_1082 : decode cL_law 1082 = .ok (.iconst 2, 1) := by decide +kernel
theorem dL_law_1083 : decode cL_law 1083 = .ok (.iadd, 1) := by decide +kernel
theorem dL_law_1084 : decode cL_law 1084 = .ok (.iaload, 1) := by decide +kernel
theorem dL_law_1085 : decode cL_law 1085 = .ok (.invokevirtual 148, 3) := by decide +kernel
theorem dL_law_1088 : decode cL_law 1088 = .ok (.istore 6, 2) := by decide +kernel
theorem dL_law_1090 : decode cL_law 1090 = .ok (.aload_n 2, 1) := by decide +kernel
theorem dL_law_1091 : decode cL_law 1091 = .ok (.invokevirtual 100, 3) := by decide +kernel
theorem dL_law_1094 : decode cL_law 1094 = .ok (.iload 5, 2) := by decide +kernel
theorem dL_law_1096 : decode cL_law 1096 = .ok (.if_icmp .eq 5, 3) := by decide +kernel
theorem dL_law_1099 : decode cL_law 1099 = .ok (.iconst 0, 1) := by decide +kernel
theorem dL_law_1100 : decode cL_law 1100 = .ok (.ireturn, 1) := by decide +kernel
theorem dL_law_1101 : decode cL_law 1101 = .ok (.iload 5, 2) := by decide +kernel
theorem dL_law_1103 : decode cL_law 1103 = .ok (.ifCond .ne 15, 3) := by decide +kernel
theorem dL_law_1106 : decode cL_law 1106 = .ok (.aload_n 3, 1) := by decide +kernel
theorem dL_law_1107 : decode cL_law 1107 = .ok (.iconst 0, 1) := by decide +kernel
theorem dL_law_1108 : decode cL_law 1108 = .ok (.laload, 1) := by decide +kernel
theorem dL_law_1109 : decode cL_law 1109 = .ok (.iload 6, 2) := by decide +kernel
theorem dL_law_1111 : decode cL_law 1111 = .ok (.i2l, 1) := by decide +kernel
theorem dL_law_1112 : decode cL_law 1112 = .ok (.lcmp, 1) := by decide +kernel
theorem dL_law_1113 : decode cL_law 1113 = .ok (.ifCond .eq 5, 3) := by decide +kernel
theorem dL_law_1116 : decode cL_law 1116 = .ok (.iconst 0, 1) := by decide +kernel
theorem dL_law_1117 : decode cL_law 1117 = .ok (.ireturn, 1) := by decide +kernel
theorem dL_law_1118 : decode cL_law 1118 = .ok (.goto 579, 3) := by decide +kernel
theorem dL_law_1121 : decode cL_law 1121 = .ok (.aload_n 1, 1) := by decide +kernel
theorem dL_law_1122 : decode cL_law 1122 = .ok (.aload_n 0, 1) := by decide +kernel
theorem dL_law_1123 : decode cL_law 1123 = .ok (.iload 4, 2) := by decide +kernel
theorem dL_law_1125 : decode cL_law 1125 = .ok (.iconst 1, 1) := by decide +kernel
theorem dL_law_1126 : decode cL_law 1126 = .ok (.iadd, 1) := by decide +kernel
theorem dL_law_1127 : decode cL_law 1127 = .ok (.iaload, 1) := by decide +kernel
theorem dL_law_1128 : decode cL_law 1128 = .ok (.aload_n 3, 1) := by decide +kernel
theorem dL_law_1129 : decode cL_law 1129 = .ok (.invokestatic 149, 3) := by decide +kernel
theorem dL_law_1132 : decode cL_law 1132 = .ok (.istore 5, 2) := by decide +kernel
theorem dL_law_1134 : decode cL_law 1134 = .ok (.aload_n 2, 1) := by decide +kernel
theorem dL_law_1135 : decode cL_law 1135 = .ok (.aload_n 0, 1) := by decide +kernel
theorem dL_law_1136 : decode cL_law 1136 = .ok (.iload 4, 2) := by decide +kernel
theorem dL_law_1138 : decode cL_law 1138 = .ok (.iconst 1, 1) := by decide +kernel
theorem dL_law_1139 : decode cL_law 1139 = .ok (.iadd, 1) := by decide +kernel
theorem dL_law_1140 : decode cL_law 1140 = .ok (.iaload, 1) := by decide +kernel
theorem dL_law_1141 : decode cL_law 1141 = .ok (.invokevirtual 151, 3) := by decide +kernel
theorem dL_law_1144 : decode cL_law 1144 = .ok (.istore 6, 2) := by decide +kernel
theorem dL_law_1146 : decode cL_law 1146 = .ok (.aload_n 2, 1) := by decide +kernel
theorem dL_law_1147 : decode cL_law 1147 = .ok (.invokevirtual 100, 3) := by decide +kernel
theorem dL_law_1150 : decode cL_law 1150 = .ok (.iload 5, 2) := by decide +kernel
theorem dL_law_1152 : decode cL_law 1152 = .ok (.if_icmp .eq 5, 3) := by decide +kernel
theorem dL_law_1155 : decode cL_law 1155 = .ok (.iconst 0, 1) := by decide +kernel
theorem dL_law_1156 : decode cL_law 1156 = .ok (.ireturn, 1) := by decide +kernel
theorem dL_law_1157 : decode cL_law 1157 = .ok (.iload 5, 2) := by decide +kernel
theorem dL_law_1159 : decode cL_law 1159 = .ok (.ifCond .ne 15, 3) := by decide +kernel
theorem dL_law_1162 : decode cL_law 1162 = .ok (.aload_n 3, 1) := by decide +kernel
theorem dL_law_1163 : decode cL_law 1163 = .ok (.iconst 0, 1) := by decide +kernel
theorem dL_law_1164 : decode cL_law 1164 = .ok (.laload, 1) := by decide +kernel
theorem dL_law_1165 : decode cL_law 1165 = .ok (.iload 6, 2) := by decide +kernel
theorem dL_law_1167 : decode cL_law 1167 = .ok (.i2l, 1) := by decide +kernel
theorem dL_law_1168 : decode cL_law 1168 = .ok (.lcmp, 1) := by decide +kernel
theorem dL_law_1169 : decode cL_law 1169 = .ok (.ifCond .eq 5, 3) := by decide +kernel
theorem dL_law_1172 : decode cL_law 1172 = .ok (.iconst 0, 1) := by decide +kernel
theorem dL_law_1173 : decode cL_law 1173 = .ok (.ireturn, 1) := by decide +kernel
theorem dL_law_1174 : decode cL_law 1174 = .ok (.goto 523, 3) := by decide +kernel
theorem dL_law_1177 : decode cL_law 1177 = .ok (.aload_n 1, 1) := by decide +kernel
theorem dL_law_1178 : decode cL_law 1178 = .ok (.invokevirtual 152, 3) := by decide +kernel
theorem dL_law_1181 : decode cL_law 1181 = .ok (.dstore 5, 2) := by decide +kernel
theorem dL_law_1183 : decode cL_law 1183 = .ok (.aload_n 2, 1) := by decide +kernel
theorem dL_law_1184 : decode cL_law 1184 = .ok (.invokevirtual 156, 3) := by decide +kernel
theorem dL_law_1187 : decode cL_law 1187 = .ok (.dstore 7, 2) := by decide +kernel
theorem dL_law_1189 : decode cL_law 1189 = .ok (.dload 5, 2) := by decide +kernel
theorem dL_law_1191 : decode cL_law 1191 = .ok (.dload 7, 2) := by decide +kernel
theorem dL_law_1193 : decode cL_law 1193 = .ok (.dcmp .l, 1) := by decide +kernel
theorem dL_law_1194 : decode cL_law 1194 = .ok (.ifCond .eq 21, 3) := by decide +kernel
theorem dL_law_1197 : decode cL_law 1197 = .ok (.dload 5, 2) := by decide +kernel
theorem dL_law_1199 : decode cL_law 1199 = .ok (.dload 5, 2) := by decide +kernel
theorem dL_law_1201 : decode cL_law 1201 = .ok (.dcmp .l, 1) := by decide +kernel
theorem dL_law_1202 : decode cL_law 1202 = .ok (.ifCond .eq 11, 3) := by decide +kernel
theorem dL_law_1205 : decode cL_law 1205 = .ok (.dload 7, 2) := by decide +kernel
theorem dL_law_1207 : decode cL_law 1207 = .ok (.dload 7, 2) := by decide +kernel
theorem dL_law_1209 : decode cL_law 1209 = .ok (.dcmp .l, 1) := by decide +kernel
theorem dL_law_1210 : decode cL_law 1210 = .ok (.ifCond .ne 5, 3) := by decide +kernel
theorem dL_law_1213 : decode cL_law 1213 = .ok (.iconst 0, 1) := by decide +kernel
theorem dL_law_1214 : decode cL_law 1214 = .ok (.ireturn, 1) := by decide +kernel
theorem dL_law_1215 : decode cL_law 1215 = .ok (.goto 482, 3) := by decide +kernel
theorem dL_law_1218 : decode cL_law 1218 = .ok (.aload_n 1, 1) := by decide +kernel
theorem dL_law_1219 : decode cL_law 1219 = .ok (.aload_n 0, 1) := by decide +kernel
theorem dL_law_1220 : decode cL_law 1220 = .ok (.iload 4, 2) := by decide +kernel
theorem dL_law_1222 : decode cL_law 1222 = .ok (.iconst 1, 1) := by decide +kernel
theorem dL_law_1223 : decode cL_law 1223 = .ok (.iadd, 1) := by decide +kernel
theorem dL_law_1224 : decode cL_law 1224 = .ok (.iaload, 1) := by decide +kernel
theorem dL_law_1225 : decode cL_law 1225 = .ok (.aload_n 3, 1) := by decide +kernel
theorem dL_law_1226 : decode cL_law 1226 = .ok (.invokestatic 157, 3) := by decide +kernel
theorem dL_law_1229 : decode cL_law 1229 = .ok (.istore 5, 2) := by decide +kernel
theorem dL_law_1231 : decode cL_law 1231 = .ok (.aload_n 2, 1) := by decide +kernel
theorem dL_law_1232 : decode cL_law 1232 = .ok (.aload_n 0, 1) := by decide +kernel
theorem dL_law_1233 : decode cL_law 1233 = .ok (.iload 4, 2) := by decide +kernel
theorem dL_law_1235 : decode cL_law 1235 = .ok (.iconst 1, 1) := by decide +kernel
theorem dL_law_1236 : decode cL_law 1236 = .ok (.iadd, 1) := by decide +kernel
theorem dL_law_1237 : decode cL_law 1237 = .ok (.iaload, 1) := by decide +kernel
theorem dL_law_1238 : decode cL_law 1238 = .ok (.invokevirtual 159, 3) := by decide +kernel
theorem dL_law_1241 : decode cL_law 1241 = .ok (.istore 6, 2) := by decide +kernel
theorem dL_law_1243 : decode cL_law 1243 = .ok (.aload_n 2, 1) := by decide +kernel
theorem dL_law_1244 : decode cL_law 1244 = .ok (.invokevirtual 100, 3) := by decide +kernel
theorem dL_law_1247 : decode cL_law 1247 = .ok (.iload 5, 2) := by decide +kernel
theorem dL_law_1249 : decode cL_law 1249 = .ok (.if_icmp .eq 5, 3) := by decide +kernel
theorem dL_law_1252 : decode cL_law 1252 = .ok (.iconst 0, 1) := by decide +kernel
theorem dL_law_1253 : decode cL_law 1253 = .ok (.ireturn, 1) := by decide +kernel
theorem dL_law_1254 : decode cL_law 1254 = .ok (.iload 5, 2) := by decide +kernel
theorem dL_law_1256 : decode cL_law 1256 = .ok (.ifCond .ne 15, 3) := by decide +kernel
theorem dL_law_1259 : decode cL_law 1259 = .ok (.aload_n 3, 1) := by decide +kernel
theorem dL_law_1260 : decode cL_law 1260 = .ok (.iconst 0, 1) := by decide +kernel
theorem dL_law_1261 : decode cL_law 1261 = .ok (.laload, 1) := by decide +kernel
theorem dL_law_1262 : decode cL_law 1262 = .ok (.iload 6, 2) := by decide +kernel
theorem dL_law_1264 : decode cL_law 1264 = .ok (.i2l, 1) := by decide +kernel
theorem dL_law_1265 : decode cL_law 1265 = .ok (.lcmp, 1) := by decide +kernel
theorem dL_law_1266 : decode cL_law 1266 = .ok (.ifCond .eq 5, 3) := by decide +kernel
theorem dL_law_1269 : decode cL_law 1269 = .ok (.iconst 0, 1) := by decide +kernel
theorem dL_law_1270 : decode cL_law 1270 = .ok (.ireturn, 1) := by decide +kernel
theorem dL_law_1271 : decode cL_law 1271 = .ok (.goto 426, 3) := by decide +kernel
theorem dL_law_1274 : decode cL_law 1274 = .ok (.aload_n 1, 1) := by decide +kernel
theorem dL_law_1275 : decode cL_law 1275 = .ok (.aload_n 0, 1) := by decide +kernel
theorem dL_law_1276 : decode cL_law 1276 = .ok (.iload 4, 2) := by decide +kernel
theorem dL_law_1278 : decode cL_law 1278 = .ok (.iconst 1, 1) := by decide +kernel
theorem dL_law_1279 : decode cL_law 1279 = .ok (.iadd, 1) := by decide +kernel
theorem dL_law_1280 : decode cL_law 1280 = .ok (.iaload, 1) := by decide +kernel
theorem dL_law_1281 : decode cL_law 1281 = .ok (.aload_n 0, 1) := by decide +kernel
theorem dL_law_1282 : decode cL_law 1282 = .ok (.iload 4, 2) := by decide +kernel
theorem dL_law_1284 : decode cL_law 1284 = .ok (.iconst 2, 1) := by decide +kernel
theorem dL_law_1285 : decode cL_law 1285 = .ok (.iadd, 1) := by decide +kernel
theorem dL_law_1286 : decode cL_law 1286 = .ok (.iaload, 1) := by decide +kernel
theorem dL_law_1287 : decode cL_law 1287 = .ok (.aload_n 3, 1) := by decide +kernel
theorem dL_law_1288 : decode cL_law 1288 = .ok (.invokestatic 160, 3) := by decide +kernel
theorem dL_law_1291 : decode cL_law 1291 = .ok (.istore 5, 2) := by decide +kernel
theorem dL_law_1293 : decode cL_law 1293 = .ok (.aload_n 2, 1) := by decide +kernel
theorem dL_law_1294 : decode cL_law 1294 = .ok (.aload_n 0, 1) := by decide +kernel
theorem dL_law_1295 : decode cL_law 1295 = .ok (.iload 4, 2) := by decide +kernel
theorem dL_law_1297 : decode cL_law 1297 = .ok (.iconst 1, 1) := by decide +kernel
theorem dL_law_1298 : decode cL_law 1298 = .ok (.iadd, 1) := by decide +kernel
theorem dL_law_1299 : decode cL_law 1299 = .ok (.iaload, 1) := by decide +kernel
theorem dL_law_1300 : decode cL_law 1300 = .ok (.aload_n 0, 1) := by decide +kernel
theorem dL_law_1301 : decode cL_law 1301 = .ok (.iload 4, 2) := by decide +kernel
theorem dL_law_1303 : decode cL_law 1303 = .ok (.iconst 2, 1) := by decide +kernel
theorem dL_law_1304 : decode cL_law 1304 = .ok (.iadd, 1) := by decide +kernel
theorem dL_law_1305 : decode cL_law 1305 = .ok (.iaload, 1) := by decide +kernel
theorem dL_law_1306 : decode cL_law 1306 = .ok (.invokevirtual 162, 3) := by decide +kernel
theorem dL_law_1309 : decode cL_law 1309 = .ok (.istore 6, 2) := by decide +kernel
theorem dL_law_1311 : decode cL_law 1311 = .ok (.aload_n 2, 1) := by decide +kernel
theorem dL_law_1312 : decode cL_law 1312 = .ok (.invokevirtual 100, 3) := by decide +kernel
theorem dL_law_1315 : decode cL_law 1315 = .ok (.iload 5, 2) := by decide +kernel
theorem dL_law_1317 : decode cL_law 1317 = .ok (.if_icmp .eq 5, 3) := by decide +kernel
theorem dL_law_1320 : decode cL_law 1320 = .ok (.iconst 0, 1) := by decide +kernel
theorem dL_law_1321 : decode cL_law 1321 = .ok (.ireturn, 1) := by decide +kernel
theorem dL_law_1322 : decode cL_law 1322 = .ok (.iload 5, 2) := by decide +kernel
theorem dL_law_1324 : decode cL_law 1324 = .ok (.ifCond .ne 15, 3) := by decide +kernel
theorem dL_law_1327 : decode cL_law 1327 = .ok (.aload_n 3, 1) := by decide +kernel
theorem dL_law_1328 : decode cL_law 1328 = .ok (.iconst 0, 1) := by decide +kernel
theorem dL_law_1329 : decode cL_law 1329 = .ok (.laload, 1) := by decide +kernel
theorem dL_law_1330 : decode cL_law 1330 = .ok (.iload 6, 2) := by decide +kernel
theorem dL_law_1332 : decode cL_law 1332 = .ok (.i2l, 1) := by decide +kernel
theorem dL_law_1333 : decode cL_law 1333 = .ok (.lcmp, 1) := by decide +kernel
theorem dL_law_1334 : decode cL_law 1334 = .ok (.ifCond .eq 5, 3) := by decide +kernel
theorem dL_law_1337 : decode cL_law 1337 = .ok (.iconst 0, 1) := by decide +kernel
theorem dL_law_1338 : decode cL_law 1338 = .ok (.ireturn, 1) := by decide +kernel
theorem dL_law_1339 : decode cL_law 1339 = .ok (.goto 358, 3) := by decide +kernel
theorem dL_law_1342 : decode cL_law 1342 = .ok (.aload_n 1, 1) := by decide +kernel
theorem dL_law_1343 : decode cL_law 1343 = .ok (.aload_n 0, 1) := by decide +kernel
theorem dL_law_1344 : decode cL_law 1344 = .ok (.iload 4, 2) := by decide +kernel
theorem dL_law_1346 : decode cL_law 1346 = .ok (.iconst 1, 1) := by decide +kernel
theorem dL_law_1347 : decode cL_law 1347 = .ok (.iadd, 1) := by decide +kernel
theorem dL_law_1348 : decode cL_law 1348 = .ok (.iaload, 1) := by decide +kernel
theorem dL_law_1349 : decode cL_law 1349 = .ok (.aload_n 3, 1) := by decide +kernel
theorem dL_law_1350 : decode cL_law 1350 = .ok (.invokestatic 163, 3) := by decide +kernel
theorem dL_law_1353 : decode cL_law 1353 = .ok (.istore 5, 2) := by decide +kernel
theorem dL_law_1355 : decode cL_law 1355 = .ok (.aload_n 2, 1) := by decide +kernel
theorem dL_law_1356 : decode cL_law 1356 = .ok (.aload_n 0, 1) := by decide +kernel
theorem dL_law_1357 : decode cL_law 1357 = .ok (.iload 4, 2) := by decide +kernel
theorem dL_law_1359 : decode cL_law 1359 = .ok (.iconst 1, 1) := by decide +kernel
theorem dL_law_1360 : decode cL_law 1360 = .ok (.iadd, 1) := by decide +kernel
theorem dL_law_1361 : decode cL_law 1361 = .ok (.iaload, 1) := by decide +kernel
theorem dL_law_1362 : decode cL_law 1362 = .ok (.invokevirtual 165, 3) := by decide +kernel
theorem dL_law_1365 : decode cL_law 1365 = .ok (.istore 6, 2) := by decide +kernel
theorem dL_law_1367 : decode cL_law 1367 = .ok (.aload_n 2, 1) := by decide +kernel
theorem dL_law_1368 : decode cL_law 1368 = .ok (.invokevirtual 100, 3) := by decide +kernel
theorem dL_law_1371 : decode cL_law 1371 = .ok (.iload 5, 2) := by decide +kernel
theorem dL_law_1373 : decode cL_law 1373 = .ok (.if_icmp .eq 5, 3) := by decide +kernel
theorem dL_law_1376 : decode cL_law 1376 = .ok (.iconst 0, 1) := by decide +kernel
theorem dL_law_1377 : decode cL_law 1377 = .ok (.ireturn, 1) := by decide +kernel
theorem dL_law_1378 : decode cL_law 1378 = .ok (.iload 5, 2) := by decide +kernel
theorem dL_law_1380 : decode cL_law 1380 = .ok (.ifCond .ne 15, 3) := by decide +kernel
theorem dL_law_1383 : decode cL_law 1383 = .ok (.aload_n 3, 1) := by decide +kernel
theorem dL_law_1384 : decode cL_law 1384 = .ok (.iconst 0, 1) := by decide +kernel
theorem dL_law_1385 : decode cL_law 1385 = .ok (.laload, 1) := by decide +kernel
theorem dL_law_1386 : decode cL_law 1386 = .ok (.iload 6, 2) := by decide +kernel
theorem dL_law_1388 : decode cL_law 1388 = .ok (.i2l, 1) := by decide +kernel
theorem dL_law_1389 : decode cL_law 1389 = .ok (.lcmp, 1) := by decide +kernel
theorem dL_law_1390 : decode cL_law 1390 = .ok (.ifCond .eq 5, 3) := by decide +kernel
theorem dL_law_1393 : decode cL_law 1393 = .ok (.iconst 0, 1) := by decide +kernel
theorem dL_law_1394 : decode cL_law 1394 = .ok (.ireturn, 1) := by decide +kernel
theorem dL_law_1395 : decode cL_law 1395 = .ok (.goto 302, 3) := by decide +kernel
theorem dL_law_1398 : decode cL_law 1398 = .ok (.aload_n 1, 1) := by decide +kernel
theorem dL_law_1399 : decode cL_law 1399 = .ok (.aload_n 0, 1) := by decide +kernel
theorem dL_law_1400 : decode cL_law 1400 = .ok (.iload 4, 2) := by decide +kernel
theorem dL_law_1402 : decode cL_law 1402 = .ok (.iconst 1, 1) := by decide +kernel
theorem dL_law_1403 : decode cL_law 1403 = .ok (.iadd, 1) := by decide +kernel
theorem dL_law_1404 : decode cL_law 1404 = .ok (.iaload, 1) := by decide +kernel
theorem dL_law_1405 : decode cL_law 1405 = .ok (.aload_n 3, 1) := by decide +kernel
theorem dL_law_1406 : decode cL_law 1406 = .ok (.invokestatic 166, 3) := by decide +kernel
theorem dL_law_1409 : decode cL_law 1409 = .ok (.istore 5, 2) := by decide +kernel
theorem dL_law_1411 : decode cL_law 1411 = .ok (.aload_n 2, 1) := by decide +kernel
theorem dL_law_1412 : decode cL_law 1412 = .ok (.aload_n 0, 1) := by decide +kernel
theorem dL_law_1413 : decode cL_law 1413 = .ok (.iload 4, 2) := by decide +kernel
theorem dL_law_1415 : decode cL_law 1415 = .ok (.iconst 1, 1) := by decide +kernel
theorem dL_law_1416 : decode cL_law 1416 = .ok (.iadd, 1) := by decide +kernel
theorem dL_law_1417 : decode cL_law 1417 = .ok (.iaload, 1) := by decide +kernel
theorem dL_law_1418 : decode cL_law 1418 = .ok (.invokevirtual 168, 3) := by decide +kernel
theorem dL_law_1421 : decode cL_law 1421 = .ok (.istore 6, 2) := by decide +kernel
theorem dL_law_1423 : decode cL_law 1423 = .ok (.aload_n 2, 1) := by decide +kernel
theorem dL_law_1424 : decode cL_law 1424 = .ok (.invokevirtual 100, 3) := by decide +kernel
theorem dL_law_1427 : decode cL_law 1427 = .ok (.iload 5, 2) := by decide +kernel
theorem dL_law_1429 : decode cL_law 1429 = .ok (.if_icmp .eq 5, 3) := by decide +kernel
theorem dL_law_1432 : decode cL_law 1432 = .ok (.iconst 0, 1) := by decide +kernel
theorem dL_law_1433 : decode cL_law 1433 = .ok (.ireturn, 1) := by decide +kernel
theorem dL_law_1434 : decode cL_law 1434 = .ok (.iload 5, 2) := by decide +kernel
theorem dL_law_1436 : decode cL_law 1436 = .ok (.ifCond .ne 15, 3) := by decide +kernel
theorem dL_law_1439 : decode cL_law 1439 = .ok (.aload_n 3, 1) := by decide +kernel
theorem dL_law_1440 : decode cL_law 1440 = .ok (.iconst 0, 1) := by decide +kernel
theorem dL_law_1441 : decode cL_law 1441 = .ok (.laload, 1) := by decide +kernel
theorem dL_law_1442 : decode cL_law 1442 = .ok (.iload 6, 2) := by decide +kernel
theorem dL_law_1444 : decode cL_law 1444 = .ok (.i2l, 1) := by decide +kernel
theorem dL_law_1445 : decode cL_law 1445 = .ok (.lcmp, 1) := by decide +kernel
theorem dL_law_1446 : decode cL_law 1446 = .ok (.ifCond .eq 5, 3) := by decide +kernel
theorem dL_law_1449 : decode cL_law 1449 = .ok (.iconst 0, 1) := by decide +kernel
theorem dL_law_1450 : decode cL_law 1450 = .ok (.ireturn, 1) := by decide +kernel
theorem dL_law_1451 : decode cL_law 1451 = .ok (.goto 246, 3) := by decide +kernel
theorem dL_law_1454 : decode cL_law 1454 = .ok (.aload_n 1, 1) := by decide +kernel
theorem dL_law_1455 : decode cL_law 1455 = .ok (.aload_n 0, 1) := by decide +kernel
theorem dL_law_1456 : decode cL_law 1456 = .ok (.iload 4, 2) := by decide +kernel
theorem dL_law_1458 : decode cL_law 1458 = .ok (.iconst 1, 1) := by decide +kernel
theorem dL_law_1459 : decode cL_law 1459 = .ok (.iadd, 1) := by decide +kernel
theorem dL_law_1460 : decode cL_law 1460 = .ok (.iaload, 1) := by decide +kernel
theorem dL_law_1461 : decode cL_law 1461 = .ok (.aload_n 3, 1) := by decide +kernel
theorem dL_law_1462 : decode cL_law 1462 = .ok (.invokestatic 169, 3) := by decide +kernel
theorem dL_law_1465 : decode cL_law 1465 = .ok (.istore 5, 2) := by decide +kernel
theorem dL_law_1467 : decode cL_law 1467 = .ok (.aload_n 2, 1) := by decide +kernel
theorem dL_law_1468 : decode cL_law 1468 = .ok (.aload_n 0, 1) := by decide +kernel
theorem dL_law_1469 : decode cL_law 1469 = .ok (.iload 4, 2) := by decide +kernel
theorem dL_law_1471 : decode cL_law 1471 = .ok (.iconst 1, 1) := by decide +kernel
theorem dL_law_1472 : decode cL_law 1472 = .ok (.iadd, 1) := by decide +kernel
theorem dL_law_1473 : decode cL_law 1473 = .ok (.iaload, 1) := by decide +kernel
theorem dL_law_1474 : decode cL_law 1474 = .ok (.invokevirtual 171, 3) := by decide +kernel
theorem dL_law_1477 : decode cL_law 1477 = .ok (.istore 6, 2) := by decide +kernel
theorem dL_law_1479 : decode cL_law 1479 = .ok (.aload_n 2, 1) := by decide +kernel
theorem dL_law_1480 : decode cL_law 1480 = .ok (.invokevirtual 100, 3) := by decide +kernel
theorem dL_law_1483 : decode cL_law 1483 = .ok (.iload 5, 2) := by decide +kernel
theorem dL_law_1485 : decode cL_law 1485 = .ok (.if_icmp .eq 5, 3) := by decide +kernel
theorem dL_law_1488 : decode cL_law 1488 = .ok (.iconst 0, 1) := by decide +kernel
theorem dL_law_1489 : decode cL_law 1489 = .ok (.ireturn, 1) := by decide +kernel
theorem dL_law_1490 : decode cL_law 1490 = .ok (.iload 5, 2) := by decide +kernel
theorem dL_law_1492 : decode cL_law 1492 = .ok (.ifCond .ne 15, 3) := by decide +kernel
theorem dL_law_1495 : decode cL_law 1495 = .ok (.aload_n 3, 1) := by decide +kernel
theorem dL_law_1496 : decode cL_law 1496 = .ok (.iconst 0, 1) := by decide +kernel
theorem dL_law_1497 : decode cL_law 1497 = .ok (.laload, 1) := by decide +kernel
theorem dL_law_1498 : decode cL_law 1498 = .ok (.iload 6, 2) := by decide +kernel
theorem dL_law_1500 : decode cL_law 1500 = .ok (.i2l, 1) := by decide +kernel
theorem dL_law_1501 : decode cL_law 1501 = .ok (.lcmp, 1) := by decide +kernel
theorem dL_law_1502 : decode cL_law 1502 = .ok (.ifCond .eq 5, 3) := by decide +kernel
theorem dL_law_1505 : decode cL_law 1505 = .ok (.iconst 0, 1) := by decide +kernel
theorem dL_law_1506 : decode cL_law 1506 = .ok (.ireturn, 1) := by decide +kernel
theorem dL_law_1507 : decode cL_law 1507 = .ok (.goto 190, 3) := by decide +kernel
theorem dL_law_1510 : decode cL_law 1510 = .ok (.aload_n 1, 1) := by decide +kernel
theorem dL_law_1511 : decode cL_law 1511 = .ok (.aload_n 0, 1) := by decide +kernel
theorem dL_law_1512 : decode cL_law 1512 = .ok (.iload 4, 2) := by decide +kernel
theorem dL_law_1514 : decode cL_law 1514 = .ok (.iconst 1, 1) := by decide +kernel
theorem dL_law_1515 : decode cL_law 1515 = .ok (.iadd, 1) := by decide +kernel
theorem dL_law_1516 : decode cL_law 1516 = .ok (.iaload, 1) := by decide +kernel
theorem dL_law_1517 : decode cL_law 1517 = .ok (.aload_n 0, 1) := by decide +kernel
theorem dL_law_1518 : decode cL_law 1518 = .ok (.iload 4, 2) := by decide +kernel
theorem dL_law_1520 : decode cL_law 1520 = .ok (.iconst 2, 1) := by decide +kernel
theorem dL_law_1521 : decode cL_law 1521 = .ok (.iadd, 1) := by decide +kernel
theorem dL_law_1522 : decode cL_law 1522 = .ok (.iaload, 1) := by decide +kernel
theorem dL_law_1523 : decode cL_law 1523 = .ok (.aload_n 3, 1) := by decide +kernel
theorem dL_law_1524 : decode cL_law 1524 = .ok (.invokestatic 172, 3) := by decide +kernel
theorem dL_law_1527 : decode cL_law 1527 = .ok (.istore 5, 2) := by decide +kernel
theorem dL_law_1529 : decode cL_law 1529 = .ok (.aload_n 2, 1) := by decide +kernel
theorem dL_law_1530 : decode cL_law 1530 = .ok (.aload_n 0, 1) := by decide +kernel
theorem dL_law_1531 : decode cL_law 1531 = .ok (.iload 4, 2) := by decide +kernel
theorem dL_law_1533 : decode cL_law 1533 = .ok (.iconst 1, 1) := by decide +kernel
theorem dL_law_1534 : decode cL_law 1534 = .ok (.iadd, 1) := by decide +kernel
theorem dL_law_1535 : decode cL_law 1535 = .ok (.iaload, 1) := by decide +kernel
theorem dL_law_1536 : decode cL_law 1536 = .ok (.aload_n 0, 1) := by decide +kernel
theorem dL_law_1537 : decode cL_law 1537 = .ok (.iload 4, 2) := by decide +kernel
theorem dL_law_1539 : decode cL_law 1539 = .ok (.iconst 2, 1) := by decide +kernel
theorem dL_law_1540 : decode cL_law 1540 = .ok (.iadd, 1) := by decide +kernel
theorem dL_law_1541 : decode cL_law 1541 = .ok (.iaload, 1) := by decide +kernel
theorem dL_law_1542 : decode cL_law 1542 = .ok (.invokevirtual 174, 3) := by decide +kernel
theorem dL_law_1545 : decode cL_law 1545 = .ok (.istore 6, 2) := by decide +kernel
theorem dL_law_1547 : decode cL_law 1547 = .ok (.aload_n 2, 1) := by decide +kernel
theorem dL_law_1548 : decode cL_law 1548 = .ok (.invokevirtual 100, 3) := by decide +kernel
theorem dL_law_1551 : decode cL_law 1551 = .ok (.iload 5, 2) := by decide +kernel
theorem dL_law_1553 : decode cL_law 1553 = .ok (.if_icmp .eq 5, 3) := by decide +kernel
theorem dL_law_1556 : decode cL_law 1556 = .ok (.iconst 0, 1) := by decide +kernel
theorem dL_law_1557 : decode cL_law 1557 = .ok (.ireturn, 1) := by decide +kernel
theorem dL_law_1558 : decode cL_law 1558 = .ok (.iload 5, 2) := by decide +kernel
theorem dL_law_1560 : decode cL_law 1560 = .ok (.ifCond .ne 15, 3) := by decide +kernel
theorem dL_law_1563 : decode cL_law 1563 = .ok (.aload_n 3, 1) := by decide +kernel
theorem dL_law_1564 : decode cL_law 1564 = .ok (.iconst 0, 1) := by decide +kernel
theorem dL_law_1565 : decode cL_law 1565 = .ok (.laload, 1) := by decide +kernel
theorem dL_law_1566 : decode cL_law 1566 = .ok (.iload 6, 2) := by decide +kernel
theorem dL_law_1568 : decode cL_law 1568 = .ok (.i2l, 1) := by decide +kernel
theorem dL_law_1569 : decode cL_law 1569 = .ok (.lcmp, 1) := by decide +kernel
theorem dL_law_1570 : decode cL_law 1570 = .ok (.ifCond .eq 5, 3) := by decide +kernel
theorem dL_law_1573 : decode cL_law 1573 = .ok (.iconst 0, 1) := by decide +kernel
theorem dL_law_1574 : decode cL_law 1574 = .ok (.ireturn, 1) := by decide +kernel
theorem dL_law_1575 : decode cL_law 1575 = .ok (.goto 122, 3) := by decide +kernel
theorem dL_law_1578 : decode cL_law 1578 = .ok (.aload_n 1, 1) := by decide +kernel
theorem dL_law_1579 : decode cL_law 1579 = .ok (.aload_n 0, 1) := by decide +kernel
theorem dL_law_1580 : decode cL_law 1580 = .ok (.iload 4, 2) := by decide +kernel
theorem dL_law_1582 : decode cL_law 1582 = .ok (.iconst 1, 1) := by decide +kernel
theorem dL_law_1583 : decode cL_law 1583 = .ok (.iadd, 1) := by decide +kernel
theorem dL_law_1584 : decode cL_law 1584 = .ok (.iaload, 1) := by decide +kernel
theorem dL_law_1585 : decode cL_law 1585 = .ok (.aload_n 3, 1) := by decide +kernel
theorem dL_law_1586 : decode cL_law 1586 = .ok (.invokestatic 175, 3) := by decide +kernel
theorem dL_law_1589 : decode cL_law 1589 = .ok (.istore 5, 2) := by decide +kernel
theorem dL_law_1591 : decode cL_law 1591 = .ok (.aload_n 2, 1) := by decide +kernel
theorem dL_law_1592 : decode cL_law 1592 = .ok (.aload_n 0, 1) := by decide +kernel
theorem dL_law_1593 : decode cL_law 1593 = .ok (.iload 4, 2) := by decide +kernel
theorem dL_law_1595 : decode cL_law 1595 = .ok (.iconst 1, 1) := by decide +kernel
theorem dL_law_1596 : decode cL_law 1596 = .ok (.iadd, 1) := by decide +kernel
theorem dL_law_1597 : decode cL_law 1597 = .ok (.iaload, 1) := by decide +kernel
theorem dL_law_1598 : decode cL_law 1598 = .ok (.invokevirtual 177, 3) := by decide +kernel
theorem dL_law_1601 : decode cL_law 1601 = .ok (.istore 6, 2) := by decide +kernel
theorem dL_law_1603 : decode cL_law 1603 = .ok (.aload_n 2, 1) := by decide +kernel
theorem dL_law_1604 : decode cL_law 1604 = .ok (.invokevirtual 100, 3) := by decide +kernel
theorem dL_law_1607 : decode cL_law 1607 = .ok (.iload 5, 2) := by decide +kernel
theorem dL_law_1609 : decode cL_law 1609 = .ok (.if_icmp .eq 5, 3) := by decide +kernel
theorem dL_law_1612 : decode cL_law 1612 = .ok (.iconst 0, 1) := by decide +kernel
theorem dL_law_1613 : decode cL_law 1613 = .ok (.ireturn, 1) := by decide +kernel
theorem dL_law_1614 : decode cL_law 1614 = .ok (.iload 5, 2) := by decide +kernel
theorem dL_law_1616 : decode cL_law 1616 = .ok (.ifCond .ne 15, 3) := by decide +kernel
theorem dL_law_1619 : decode cL_law 1619 = .ok (.aload_n 3, 1) := by decide +kernel
theorem dL_law_1620 : decode cL_law 1620 = .ok (.iconst 0, 1) := by decide +kernel
theorem dL_law_1621 : decode cL_law 1621 = .ok (.laload, 1) := by decide +kernel
theorem dL_law_1622 : decode cL_law 1622 = .ok (.iload 6, 2) := by decide +kernel
theorem dL_law_1624 : decode cL_law 1624 = .ok (.i2l, 1) := by decide +kernel
theorem dL_law_1625 : decode cL_law 1625 = .ok (.lcmp, 1) := by decide +kernel
theorem dL_law_1626 : decode cL_law 1626 = .ok (.ifCond .eq 5, 3) := by decide +kernel
theorem dL_law_1629 : decode cL_law 1629 = .ok (.iconst 0, 1) := by decide +kernel
theorem dL_law_1630 : decode cL_law 1630 = .ok (.ireturn, 1) := by decide +kernel
theorem dL_law_1631 : decode cL_law 1631 = .ok (.goto 66, 3) := by decide +kernel
theorem dL_law_1634 : decode cL_law 1634 = .ok (.aload_n 1, 1) := by decide +kernel
theorem dL_law_1635 : decode cL_law 1635 = .ok (.invokevirtual 178, 3) := by decide +kernel
theorem dL_law_1638 : decode cL_law 1638 = .ok (.aload_n 2, 1) := by decide +kernel
theorem dL_law_1639 : decode cL_law 1639 = .ok (.invokevirtual 181, 3) := by decide +kernel
theorem dL_law_1642 : decode cL_law 1642 = .ok (.if_icmp .eq 55, 3) := by decide +kernel
theorem dL_law_1645 : decode cL_law 1645 = .ok (.iconst 0, 1) := by decide +kernel
theorem dL_law_1646 : decode cL_law 1646 = .ok (.ireturn, 1) := by decide +kernel
theorem dL_law_1647 : decode cL_law 1647 = .ok (.aload_n 1, 1) := by decide +kernel
theorem dL_law_1648 : decode cL_law 1648 = .ok (.aload_n 0, 1) := by decide +kernel
theorem dL_law_1649 : decode cL_law 1649 = .ok (.iload 4, 2) := by decide +kernel
theorem dL_law_1651 : decode cL_law 1651 = .ok (.iconst 1, 1) := by decide +kernel
theorem dL_law_1652 : decode cL_law 1652 = .ok (.iadd, 1) := by decide +kernel
theorem dL_law_1653 : decode cL_law 1653 = .ok (.iaload, 1) := by decide +kernel
theorem dL_law_1654 : decode cL_law 1654 = .ok (.invokevirtual 182, 3) := by decide +kernel
theorem dL_law_1657 : decode cL_law 1657 = .ok (.aload_n 2, 1) := by decide +kernel
theorem dL_law_1658 : decode cL_law 1658 = .ok (.aload_n 0, 1) := by decide +kernel
theorem dL_law_1659 : decode cL_law 1659 = .ok (.iload 4, 2) := by decide +kernel
theorem dL_law_1661 : decode cL_law 1661 = .ok (.iconst 1, 1) := by decide +kernel
theorem dL_law_1662 : decode cL_law 1662 = .ok (.iadd, 1) := by decide +kernel
theorem dL_law_1663 : decode cL_law 1663 = .ok (.iaload, 1) := by decide +kernel
theorem dL_law_1664 : decode cL_law 1664 = .ok (.invokevirtual 186, 3) := by decide +kernel
theorem dL_law_1667 : decode cL_law 1667 = .ok (.if_icmp .eq 30, 3) := by decide +kernel
theorem dL_law_1670 : decode cL_law 1670 = .ok (.iconst 0, 1) := by decide +kernel
theorem dL_law_1671 : decode cL_law 1671 = .ok (.ireturn, 1) := by decide +kernel
theorem dL_law_1672 : decode cL_law 1672 = .ok (.aload_n 1, 1) := by decide +kernel
theorem dL_law_1673 : decode cL_law 1673 = .ok (.aload_n 0, 1) := by decide +kernel
theorem dL_law_1674 : decode cL_law 1674 = .ok (.iload 4, 2) := by decide +kernel
theorem dL_law_1676 : decode cL_law 1676 = .ok (.iconst 1, 1) := by decide +kernel
theorem dL_law_1677 : decode cL_law 1677 = .ok (.iadd, 1) := by decide +kernel
theorem dL_law_1678 : decode cL_law 1678 = .ok (.iaload, 1) := by decide +kernel
theorem dL_law_1679 : decode cL_law 1679 = .ok (.invokevirtual 187, 3) := by decide +kernel
theorem dL_law_1682 : decode cL_law 1682 = .ok (.aload_n 2, 1) := by decide +kernel
theorem dL_law_1683 : decode cL_law 1683 = .ok (.aload_n 0, 1) := by decide +kernel
theorem dL_law_1684 : decode cL_law 1684 = .ok (.iload 4, 2) := by decide +kernel
theorem dL_law_1686 : decode cL_law 1686 = .ok (.iconst 1, 1) := by decide +kernel
theorem dL_law_1687 : decode cL_law 1687 = .ok (.iadd, 1) := by decide +kernel
theorem dL_law_1688 : decode cL_law 1688 = .ok (.iaload, 1) := by decide +kernel
theorem dL_law_1689 : decode cL_law 1689 = .ok (.invokevirtual 190, 3) := by decide +kernel
theorem dL_law_1692 : decode cL_law 1692 = .ok (.if_icmp .eq 5, 3) := by decide +kernel
theorem dL_law_1695 : decode cL_law 1695 = .ok (.iconst 0, 1) := by decide +kernel
theorem dL_law_1696 : decode cL_law 1696 = .ok (.ireturn, 1) := by decide +kernel
theorem dL_law_1697 : decode cL_law 1697 = .ok (.iinc 4 6, 3) := by decide +kernel
theorem dL_law_1700 : decode cL_law 1700 = .ok (.goto (-1677), 3) := by decide +kernel
theorem dL_law_1703 : decode cL_law 1703 = .ok (.iconst 1, 1) := by decide +kernel
theorem dL_law_1704 : decode cL_law 1704 = .ok (.ireturn, 1) := by decide +kernel
abbrev vwCl : List vw_C := [(RX0, TX0, 6), (RX1, TX1, 3), (RX2, TX2, 2), (RX3, TX3, 6), (RX4, TX4, 16), (RX5, TX5, 14), (RX6, TX6, 10), (RX7, TX7, 5), (RX8, TX8, 23)]
