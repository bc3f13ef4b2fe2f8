/-! ===== BEGIN printed: names, fields, word lists, decode rows ===== -/
def RX0 : String := "ForesightHub$ErrorBook"
def TX0 : u_T := fun k => match k with
  | 0 => ("ForesightHub$ErrorBook", "kept", "[I", true)
  | 1 => ("ForesightHub$ErrorBook", "kinds", "[I", true)
  | 2 => ("ForesightHub$ErrorBook", "times", "[I", true)
  | 3 => ("ForesightHub$ErrorBook", "causes", "I", false)
  | 4 => ("ForesightHub$ErrorBook", "causeOrder", "[I", true)
  | _ => ("ForesightHub$ErrorBook", "causeTotals", "[I", true)
def tyX0 : Nat → FieldType := fun k => match k with
  | 0 => .array .int
  | 1 => .array .int
  | 2 => .array .int
  | 3 => .int
  | 4 => .array .int
  | _ => .array .int
abbrev wsX00 : List Cond := u_ws RX0 TX0 6
theorem nmX0 : ∀ a, a < 6 → ∀ b, b < 6 → a ≠ b → (TX0 a).2.1 ≠ (TX0 b).2.1 := by decide +kernel
theorem tyX0_ok : ∀ k, k < 6 → parseFieldDescriptor (TX0 k).2.2.1 = some (tyX0 k) := by decide +kernel
abbrev cX0_init : ByteArray := prog_2_method_1_code
def yX0_init : MethodName := ⟨RX0, "<init>", "()V"⟩
abbrev cX0_clear : ByteArray := prog_2_method_2_code
def yX0_clear : MethodName := ⟨RX0, "clear", "()V"⟩
abbrev cX0_copyFrom : ByteArray := prog_2_method_3_code
def yX0_copyFrom : MethodName := ⟨RX0, "copyFrom", "(LForesightHub$ErrorBook;)V"⟩
abbrev cX0_add : ByteArray := prog_2_method_4_code
def yX0_add : MethodName := ⟨RX0, "add", "(III)V"⟩
abbrev cX0_dropOldest : ByteArray := prog_2_method_5_code
def yX0_dropOldest : MethodName := ⟨RX0, "dropOldest", "(I)V"⟩
abbrev cX0_countCause : ByteArray := prog_2_method_6_code
def yX0_countCause : MethodName := ⟨RX0, "countCause", "(I)V"⟩
abbrev cX0_forget : ByteArray := prog_2_method_7_code
def yX0_forget : MethodName := ⟨RX0, "forget", "(I)V"⟩
abbrev cX0_kindOf : ByteArray := prog_2_method_8_code
def yX0_kindOf : MethodName := ⟨RX0, "kindOf", "(II)I"⟩
abbrev cX0_timeOf : ByteArray := prog_2_method_9_code
def yX0_timeOf : MethodName := ⟨RX0, "timeOf", "(II)I"⟩
abbrev cX0_placeOf : ByteArray := prog_2_method_10_code
def yX0_placeOf : MethodName := ⟨RX0, "placeOf", "(II)I"⟩
abbrev cX0_staying : ByteArray := prog_2_method_11_code
def yX0_staying : MethodName := ⟨RX0, "staying", "(I)I"⟩
def RX1 : String := "ForesightHub$History"
def TX1 : u_T := fun k => match k with
  | 0 => ("ForesightHub$History", "states", "[LForesightHub$State;", true)
  | 1 => ("ForesightHub$History", "kept", "I", false)
  | _ => ("ForesightHub$History", "next", "I", false)
def tyX1 : Nat → FieldType := fun k => match k with
  | 0 => .array (.object "ForesightHub$State")
  | 1 => .int
  | _ => .int
abbrev wsX10 : List Cond := u_ws RX1 TX1 3
theorem nmX1 : ∀ a, a < 3 → ∀ b, b < 3 → a ≠ b → (TX1 a).2.1 ≠ (TX1 b).2.1 := by decide +kernel
theorem tyX1_ok : ∀ k, k < 3 → parseFieldDescriptor (TX1 k).2.2.1 = some (tyX1 k) := by decide +kernel
abbrev cX1_init : ByteArray := prog_3_method_1_code
def yX1_init : MethodName := ⟨RX1, "<init>", "()V"⟩
abbrev cX1_clear : ByteArray := prog_3_method_2_code
def yX1_clear : MethodName := ⟨RX1, "clear", "()V"⟩
abbrev cX1_remember : ByteArray := prog_3_method_3_code
def yX1_remember : MethodName := ⟨RX1, "remember", "(LForesightHub$State;)V"⟩
abbrev cX1_takeBack : ByteArray := prog_3_method_4_code
def yX1_takeBack : MethodName := ⟨RX1, "takeBack", "(LForesightHub$State;)Z"⟩
def RX2 : String := "ForesightHub$Hub"
def TX2 : u_T := fun k => match k with
  | 0 => ("ForesightHub$Hub", "plan", "LForesightHub$Plan;", false)
  | _ => ("ForesightHub$Hub", "state", "LForesightHub$State;", true)
def tyX2 : Nat → FieldType := fun k => match k with
  | 0 => .object "ForesightHub$Plan"
  | _ => .object "ForesightHub$State"
abbrev wsX20 : List Cond := u_ws RX2 TX2 2
theorem nmX2 : ∀ a, a < 2 → ∀ b, b < 2 → a ≠ b → (TX2 a).2.1 ≠ (TX2 b).2.1 := by decide +kernel
theorem tyX2_ok : ∀ k, k < 2 → parseFieldDescriptor (TX2 k).2.2.1 = some (tyX2 k) := by decide +kernel
abbrev cX2_init : ByteArray := prog_4_method_1_code
def yX2_init : MethodName := ⟨RX2, "<init>", "()V"⟩
abbrev cX2_begin : ByteArray := prog_4_method_2_code
def yX2_begin : MethodName := ⟨RX2, "begin", "(LForesightHub$Plan;)V"⟩
abbrev cX2_isDevice : ByteArray := prog_4_method_3_code
def yX2_isDevice : MethodName := ⟨RX2, "isDevice", "(I)Z"⟩
abbrev cX2_isPluggedIn : ByteArray := prog_4_method_4_code
def yX2_isPluggedIn : MethodName := ⟨RX2, "isPluggedIn", "(I)Z"⟩
abbrev cX2_inAlarm : ByteArray := prog_4_method_5_code
def yX2_inAlarm : MethodName := ⟨RX2, "inAlarm", "(I)Z"⟩
abbrev cX2_canHold : ByteArray := prog_4_method_6_code
def yX2_canHold : MethodName := ⟨RX2, "canHold", "(I)Z"⟩
abbrev cX2_pluggedInAt : ByteArray := prog_4_method_7_code
def yX2_pluggedInAt : MethodName := ⟨RX2, "pluggedInAt", "(I)I"⟩
abbrev cX2_heldBits : ByteArray := prog_4_method_8_code
def yX2_heldBits : MethodName := ⟨RX2, "heldBits", "(I)I"⟩
abbrev cX2_reservedFor : ByteArray := prog_4_method_9_code
def yX2_reservedFor : MethodName := ⟨RX2, "reservedFor", "(I)I"⟩
abbrev cX2_unitsAtStake : ByteArray := prog_4_method_10_code
def yX2_unitsAtStake : MethodName := ⟨RX2, "unitsAtStake", "(I)I"⟩
abbrev cX2_clearingFrames : ByteArray := prog_4_method_11_code
def yX2_clearingFrames : MethodName := ⟨RX2, "clearingFrames", "(I)I"⟩
abbrev cX2_framesToPacketEnd : ByteArray := prog_4_method_12_code
def yX2_framesToPacketEnd : MethodName := ⟨RX2, "framesToPacketEnd", "(I)I"⟩
abbrev cX2_weakestDevice : ByteArray := prog_4_method_13_code
def yX2_weakestDevice : MethodName := ⟨RX2, "weakestDevice", "()I"⟩
abbrev cX2_scoreOf : ByteArray := prog_4_method_14_code
def yX2_scoreOf : MethodName := ⟨RX2, "scoreOf", "(II)I"⟩
abbrev cX2_matchingBits : ByteArray := prog_4_method_15_code
def yX2_matchingBits : MethodName := ⟨RX2, "matchingBits", "(II)I"⟩
abbrev cX2_matches : ByteArray := prog_4_method_16_code
def yX2_matches : MethodName := ⟨RX2, "matches", "(III)Z"⟩
abbrev cX2_isNextOf : ByteArray := prog_4_method_17_code
def yX2_isNextOf : MethodName := ⟨RX2, "isNextOf", "(III)Z"⟩
abbrev cX2_takeError : ByteArray := prog_4_method_19_code
def yX2_takeError : MethodName := ⟨RX2, "takeError", "(II)V"⟩
abbrev cX2_beginAlarm : ByteArray := prog_4_method_20_code
def yX2_beginAlarm : MethodName := ⟨RX2, "beginAlarm", "(I)V"⟩
abbrev cX2_endWrongAlarm : ByteArray := prog_4_method_21_code
def yX2_endWrongAlarm : MethodName := ⟨RX2, "endWrongAlarm", "(I)V"⟩
abbrev cX2_isWrongAlarm : ByteArray := prog_4_method_22_code
def yX2_isWrongAlarm : MethodName := ⟨RX2, "isWrongAlarm", "(I)Z"⟩
abbrev cX2_pullOut : ByteArray := prog_4_method_23_code
def yX2_pullOut : MethodName := ⟨RX2, "pullOut", "(I)I"⟩
abbrev cX2_dropStream : ByteArray := prog_4_method_24_code
def yX2_dropStream : MethodName := ⟨RX2, "dropStream", "(I)I"⟩
abbrev cX2_putIn : ByteArray := prog_4_method_25_code
def yX2_putIn : MethodName := ⟨RX2, "putIn", "(II)V"⟩
abbrev cX2_reserved : ByteArray := prog_4_method_26_code
def yX2_reserved : MethodName := ⟨RX2, "reserved", "()I"⟩
abbrev cX2_heirOfHome : ByteArray := prog_4_method_27_code
def yX2_heirOfHome : MethodName := ⟨RX2, "heirOfHome", "(I)I"⟩
abbrev cX2_wantedHolder : ByteArray := prog_4_method_28_code
def yX2_wantedHolder : MethodName := ⟨RX2, "wantedHolder", "(I)I"⟩
abbrev cX2_settle : ByteArray := prog_4_method_30_code
def yX2_settle : MethodName := ⟨RX2, "settle", "()V"⟩
abbrev cX2_settleHeld : ByteArray := prog_4_method_31_code
def yX2_settleHeld : MethodName := ⟨RX2, "settleHeld", "(I)V"⟩
abbrev cX2_passFrame : ByteArray := prog_4_method_32_code
def yX2_passFrame : MethodName := ⟨RX2, "passFrame", "()V"⟩
abbrev cX2_sendOn : ByteArray := prog_4_method_33_code
def yX2_sendOn : MethodName := ⟨RX2, "sendOn", "(I)V"⟩
abbrev cX2_sendToPacketEnd : ByteArray := prog_4_method_34_code
def yX2_sendToPacketEnd : MethodName := ⟨RX2, "sendToPacketEnd", "(I)V"⟩
def RX3 : String := "ForesightHub$Log"
def TX3 : u_T := fun k => match k with
  | 0 => ("ForesightHub$Log", "kept", "I", false)
  | 1 => ("ForesightHub$Log", "next", "I", false)
  | 2 => ("ForesightHub$Log", "kinds", "[I", true)
  | 3 => ("ForesightHub$Log", "items", "[I", true)
  | 4 => ("ForesightHub$Log", "times", "[I", true)
  | _ => ("ForesightHub$Log", "totals", "[I", true)
def tyX3 : Nat → FieldType := fun k => match k with
  | 0 => .int
  | 1 => .int
  | 2 => .array .int
  | 3 => .array .int
  | 4 => .array .int
  | _ => .array .int
abbrev wsX30 : List Cond := u_ws RX3 TX3 6
theorem nmX3 : ∀ a, a < 6 → ∀ b, b < 6 → a ≠ b → (TX3 a).2.1 ≠ (TX3 b).2.1 := by decide +kernel
theorem tyX3_ok : ∀ k, k < 6 → parseFieldDescriptor (TX3 k).2.2.1 = some (tyX3 k) := by decide +kernel
abbrev cX3_init : ByteArray := prog_5_method_1_code
def yX3_init : MethodName := ⟨RX3, "<init>", "()V"⟩
abbrev cX3_clear : ByteArray := prog_5_method_2_code
def yX3_clear : MethodName := ⟨RX3, "clear", "()V"⟩
abbrev cX3_copyFrom : ByteArray := prog_5_method_3_code
def yX3_copyFrom : MethodName := ⟨RX3, "copyFrom", "(LForesightHub$Log;)V"⟩
abbrev cX3_add : ByteArray := prog_5_method_4_code
def yX3_add : MethodName := ⟨RX3, "add", "(III)V"⟩
def RX4 : String := "ForesightHub$Plan"
def TX4 : u_T := fun k => match k with
  | 0 => ("ForesightHub$Plan", "whole", "I", false)
  | 1 => ("ForesightHub$Plan", "ports", "I", false)
  | 2 => ("ForesightHub$Plan", "score", "I", false)
  | 3 => ("ForesightHub$Plan", "grace", "I", false)
  | 4 => ("ForesightHub$Plan", "patterns", "I", false)
  | 5 => ("ForesightHub$Plan", "devices", "I", false)
  | 6 => ("ForesightHub$Plan", "streams", "I", false)
  | 7 => ("ForesightHub$Plan", "weight", "[I", true)
  | 8 => ("ForesightHub$Plan", "within", "[I", true)
  | 9 => ("ForesightHub$Plan", "patternErrors", "[I", true)
  | 10 => ("ForesightHub$Plan", "patternKinds", "[I", true)
  | 11 => ("ForesightHub$Plan", "firstPort", "[I", true)
  | 12 => ("ForesightHub$Plan", "heir", "[I", true)
  | 13 => ("ForesightHub$Plan", "home", "[I", true)
  | 14 => ("ForesightHub$Plan", "rate", "[I", true)
  | _ => ("ForesightHub$Plan", "packet", "[I", true)
def tyX4 : Nat → FieldType := fun k => match k with
  | 0 => .int
  | 1 => .int
  | 2 => .int
  | 3 => .int
  | 4 => .int
  | 5 => .int
  | 6 => .int
  | 7 => .array .int
  | 8 => .array .int
  | 9 => .array .int
  | 10 => .array .int
  | 11 => .array .int
  | 12 => .array .int
  | 13 => .array .int
  | 14 => .array .int
  | _ => .array .int
abbrev wsX40 : List Cond := u_ws RX4 TX4 16
theorem nmX4 : ∀ a, a < 16 → ∀ b, b < 16 → a ≠ b → (TX4 a).2.1 ≠ (TX4 b).2.1 := by decide +kernel
theorem tyX4_ok : ∀ k, k < 16 → parseFieldDescriptor (TX4 k).2.2.1 = some (tyX4 k) := by decide +kernel
abbrev cX4_init : ByteArray := prog_6_method_1_code
def yX4_init : MethodName := ⟨RX4, "<init>", "()V"⟩
abbrev cX4_clear : ByteArray := prog_6_method_2_code
def yX4_clear : MethodName := ⟨RX4, "clear", "()V"⟩
def RX5 : String := "ForesightHub$Reader"
def TX5 : u_T := fun k => match k with
  | 0 => ("ForesightHub$Reader", "buffer", "[B", true)
  | 1 => ("ForesightHub$Reader", "filled", "I", false)
  | 2 => ("ForesightHub$Reader", "textEnd", "I", false)
  | 3 => ("ForesightHub$Reader", "position", "I", false)
  | 4 => ("ForesightHub$Reader", "token", "I", false)
  | 5 => ("ForesightHub$Reader", "tokenStart", "I", false)
  | 6 => ("ForesightHub$Reader", "value", "J", false)
  | 7 => ("ForesightHub$Reader", "faultOffset", "I", false)
  | 8 => ("ForesightHub$Reader", "faultKind", "I", false)
  | 9 => ("ForesightHub$Reader", "plan", "LForesightHub$Plan;", false)
  | 10 => ("ForesightHub$Reader", "alarmTold", "Z", false)
  | 11 => ("ForesightHub$Reader", "patternNames", "[J", true)
  | 12 => ("ForesightHub$Reader", "deviceNames", "[J", true)
  | _ => ("ForesightHub$Reader", "streamNames", "[J", true)
def tyX5 : Nat → FieldType := fun k => match k with
  | 0 => .array .byte
  | 1 => .int
  | 2 => .int
  | 3 => .int
  | 4 => .int
  | 5 => .int
  | 6 => .long
  | 7 => .int
  | 8 => .int
  | 9 => .object "ForesightHub$Plan"
  | 10 => .boolean
  | 11 => .array .long
  | 12 => .array .long
  | _ => .array .long
abbrev wsX50 : List Cond := u_ws RX5 TX5 14
theorem nmX5 : ∀ a, a < 14 → ∀ b, b < 14 → a ≠ b → (TX5 a).2.1 ≠ (TX5 b).2.1 := by decide +kernel
theorem tyX5_ok : ∀ k, k < 14 → parseFieldDescriptor (TX5 k).2.2.1 = some (tyX5 k) := by decide +kernel
abbrev cX5_init : ByteArray := prog_7_method_1_code
def yX5_init : MethodName := ⟨RX5, "<init>", "()V"⟩
abbrev cX5_hasRoomFor : ByteArray := prog_7_method_2_code
def yX5_hasRoomFor : MethodName := ⟨RX5, "hasRoomFor", "(I)Z"⟩
abbrev cX5_addBytesOf : ByteArray := prog_7_method_3_code
def yX5_addBytesOf : MethodName := ⟨RX5, "addBytesOf", "(I)V"⟩
abbrev cX5_exchangePlan : ByteArray := prog_7_method_4_code
def yX5_exchangePlan : MethodName := ⟨RX5, "exchangePlan", "(LForesightHub$Plan;)LForesightHub$Plan;"⟩
abbrev cX5_faultAnswer : ByteArray := prog_7_method_5_code
def yX5_faultAnswer : MethodName := ⟨RX5, "faultAnswer", "()I"⟩
abbrev cX5_read : ByteArray := prog_7_method_6_code
def yX5_read : MethodName := ⟨RX5, "read", "(I)Z"⟩
abbrev cX5_readHeader : ByteArray := prog_7_method_7_code
def yX5_readHeader : MethodName := ⟨RX5, "readHeader", "()Z"⟩
abbrev cX5_readStatement : ByteArray := prog_7_method_8_code
def yX5_readStatement : MethodName := ⟨RX5, "readStatement", "()Z"⟩
abbrev cX5_readPattern : ByteArray := prog_7_method_9_code
def yX5_readPattern : MethodName := ⟨RX5, "readPattern", "()Z"⟩
abbrev cX5_readPatternErrors : ByteArray := prog_7_method_10_code
def yX5_readPatternErrors : MethodName := ⟨RX5, "readPatternErrors", "(I)Z"⟩
abbrev cX5_readDevice : ByteArray := prog_7_method_11_code
def yX5_readDevice : MethodName := ⟨RX5, "readDevice", "()Z"⟩
abbrev cX5_readStream : ByteArray := prog_7_method_12_code
def yX5_readStream : MethodName := ⟨RX5, "readStream", "()Z"⟩
abbrev cX5_readAlarm : ByteArray := prog_7_method_13_code
def yX5_readAlarm : MethodName := ⟨RX5, "readAlarm", "()Z"⟩
abbrev cX5_takeSemicolon : ByteArray := prog_7_method_14_code
def yX5_takeSemicolon : MethodName := ⟨RX5, "takeSemicolon", "()Z"⟩
abbrev cX5_takeNewName : ByteArray := prog_7_method_15_code
def yX5_takeNewName : MethodName := ⟨RX5, "takeNewName", "([JI)Z"⟩
abbrev cX5_isKnownDevice : ByteArray := prog_7_method_16_code
def yX5_isKnownDevice : MethodName := ⟨RX5, "isKnownDevice", "()Z"⟩
abbrev cX5_isNumberWithin : ByteArray := prog_7_method_17_code
def yX5_isNumberWithin : MethodName := ⟨RX5, "isNumberWithin", "(II)Z"⟩
abbrev cX5_isTakenPort : ByteArray := prog_7_method_18_code
def yX5_isTakenPort : MethodName := ⟨RX5, "isTakenPort", "(I)Z"⟩
abbrev cX5_indexOfWord : ByteArray := prog_7_method_19_code
def yX5_indexOfWord : MethodName := ⟨RX5, "indexOfWord", "([JI)I"⟩
abbrev cX5_kindOfWord : ByteArray := prog_7_method_20_code
def yX5_kindOfWord : MethodName := ⟨RX5, "kindOfWord", "()I"⟩
abbrev cX5_isWord : ByteArray := prog_7_method_21_code
def yX5_isWord : MethodName := ⟨RX5, "isWord", "(Ljava/lang/String;)Z"⟩
abbrev cX5_fault : ByteArray := prog_7_method_22_code
def yX5_fault : MethodName := ⟨RX5, "fault", "(I)Z"⟩
abbrev cX5_advance : ByteArray := prog_7_method_23_code
def yX5_advance : MethodName := ⟨RX5, "advance", "()V"⟩
abbrev cX5_kindOfSign : ByteArray := prog_7_method_24_code
def yX5_kindOfSign : MethodName := ⟨RX5, "kindOfSign", "(I)I"⟩
def RX6 : String := "ForesightHub$State"
def TX6 : u_T := fun k => match k with
  | 0 => ("ForesightHub$State", "time", "I", false)
  | 1 => ("ForesightHub$State", "alarmScore", "I", false)
  | 2 => ("ForesightHub$State", "port", "[I", true)
  | 3 => ("ForesightHub$State", "alarmSince", "[I", true)
  | 4 => ("ForesightHub$State", "holder", "[I", true)
  | 5 => ("ForesightHub$State", "mode", "[I", true)
  | 6 => ("ForesightHub$State", "done", "[I", true)
  | 7 => ("ForesightHub$State", "sent", "[J", true)
  | 8 => ("ForesightHub$State", "errors", "LForesightHub$ErrorBook;", true)
  | _ => ("ForesightHub$State", "log", "LForesightHub$Log;", true)
def tyX6 : Nat → FieldType := fun k => match k with
  | 0 => .int
  | 1 => .int
  | 2 => .array .int
  | 3 => .array .int
  | 4 => .array .int
  | 5 => .array .int
  | 6 => .array .int
  | 7 => .array .long
  | 8 => .object "ForesightHub$ErrorBook"
  | _ => .object "ForesightHub$Log"
abbrev wsX60 : List Cond := u_ws RX6 TX6 10
theorem nmX6 : ∀ a, a < 10 → ∀ b, b < 10 → a ≠ b → (TX6 a).2.1 ≠ (TX6 b).2.1 := by decide +kernel
theorem tyX6_ok : ∀ k, k < 10 → parseFieldDescriptor (TX6 k).2.2.1 = some (tyX6 k) := by decide +kernel
abbrev cX6_init : ByteArray := prog_8_method_1_code
def yX6_init : MethodName := ⟨RX6, "<init>", "()V"⟩
abbrev cX6_begin : ByteArray := prog_8_method_2_code
def yX6_begin : MethodName := ⟨RX6, "begin", "(LForesightHub$Plan;)V"⟩
abbrev cX6_copyFrom : ByteArray := prog_8_method_3_code
def yX6_copyFrom : MethodName := ⟨RX6, "copyFrom", "(LForesightHub$State;)V"⟩
def RX7 : String := "ForesightHub"
def TX7 : u_T := fun k => match k with
  | 0 => ("ForesightHub", "reader", "LForesightHub$Reader;", true)
  | 1 => ("ForesightHub", "hub", "LForesightHub$Hub;", true)
  | 2 => ("ForesightHub", "history", "LForesightHub$History;", true)
  | 3 => ("ForesightHub", "snapshots", "[LForesightHub$State;", true)
  | _ => ("ForesightHub", "snapshotTaken", "[Z", true)
def tyX7 : Nat → FieldType := fun k => match k with
  | 0 => .object "ForesightHub$Reader"
  | 1 => .object "ForesightHub$Hub"
  | 2 => .object "ForesightHub$History"
  | 3 => .array (.object "ForesightHub$State")
  | _ => .array .boolean
abbrev wsX70 : List Cond := u_ws RX7 TX7 5
theorem nmX7 : ∀ a, a < 5 → ∀ b, b < 5 → a ≠ b → (TX7 a).2.1 ≠ (TX7 b).2.1 := by decide +kernel
theorem tyX7_ok : ∀ k, k < 5 → parseFieldDescriptor (TX7 k).2.2.1 = some (tyX7 k) := by decide +kernel
abbrev cX7_init : ByteArray := prog_1_method_1_code
def yX7_init : MethodName := ⟨RX7, "<init>", "()V"⟩
abbrev cX7_append : ByteArray := prog_1_method_2_code
def yX7_append : MethodName := ⟨RX7, "append", "(IIIII)I"⟩
abbrev cX7_parse : ByteArray := prog_1_method_3_code
def yX7_parse : MethodName := ⟨RX7, "parse", "(I)I"⟩
abbrev cX7_size : ByteArray := prog_1_method_4_code
def yX7_size : MethodName := ⟨RX7, "size", "(I)I"⟩
abbrev cX7_device : ByteArray := prog_1_method_6_code
def yX7_device : MethodName := ⟨RX7, "device", "(II)I"⟩
abbrev cX7_stream : ByteArray := prog_1_method_7_code
def yX7_stream : MethodName := ⟨RX7, "stream", "(II)I"⟩
abbrev cX7_framesToClear : ByteArray := prog_1_method_13_code
def yX7_framesToClear : MethodName := ⟨RX7, "framesToClear", "(I)I"⟩
abbrev cX7_atStake : ByteArray := prog_1_method_14_code
def yX7_atStake : MethodName := ⟨RX7, "atStake", "(I)I"⟩
abbrev cX7_weakest : ByteArray := prog_1_method_15_code
def yX7_weakest : MethodName := ⟨RX7, "weakest", "()I"⟩
abbrev cX7_account : ByteArray := prog_1_method_18_code
def yX7_account : MethodName := ⟨RX7, "account", "(I)I"⟩
abbrev cX7_frames : ByteArray := prog_1_method_20_code
def yX7_frames : MethodName := ⟨RX7, "frames", "(I)I"⟩
abbrev cX7_fail : ByteArray := prog_1_method_21_code
def yX7_fail : MethodName := ⟨RX7, "fail", "(II)I"⟩
abbrev cX7_warn : ByteArray := prog_1_method_22_code
def yX7_warn : MethodName := ⟨RX7, "warn", "(I)I"⟩
abbrev cX7_callOff : ByteArray := prog_1_method_23_code
def yX7_callOff : MethodName := ⟨RX7, "callOff", "(I)I"⟩
abbrev cX7_unplug : ByteArray := prog_1_method_24_code
def yX7_unplug : MethodName := ⟨RX7, "unplug", "(I)I"⟩
abbrev cX7_plug : ByteArray := prog_1_method_25_code
def yX7_plug : MethodName := ⟨RX7, "plug", "(II)I"⟩
abbrev cX7_undo : ByteArray := prog_1_method_27_code
def yX7_undo : MethodName := ⟨RX7, "undo", "()I"⟩
abbrev cX7_saveSnapshot : ByteArray := prog_1_method_28_code
def yX7_saveSnapshot : MethodName := ⟨RX7, "saveSnapshot", "(I)Z"⟩
abbrev cX7_restoreSnapshot : ByteArray := prog_1_method_29_code
def yX7_restoreSnapshot : MethodName := ⟨RX7, "restoreSnapshot", "(I)Z"⟩
abbrev cX7_requireDevice : ByteArray := prog_1_method_30_code
def yX7_requireDevice : MethodName := ⟨RX7, "requireDevice", "(I)V"⟩
abbrev cX7_requireStream : ByteArray := prog_1_method_31_code
def yX7_requireStream : MethodName := ⟨RX7, "requireStream", "(I)V"⟩
abbrev cX7_requirePort : ByteArray := prog_1_method_32_code
def yX7_requirePort : MethodName := ⟨RX7, "requirePort", "(I)V"⟩
abbrev cX7_requireKind : ByteArray := prog_1_method_33_code
def yX7_requireKind : MethodName := ⟨RX7, "requireKind", "(I)V"⟩
abbrev cX7_requirePluggedIn : ByteArray := prog_1_method_34_code
def yX7_requirePluggedIn : MethodName := ⟨RX7, "requirePluggedIn", "(I)V"⟩
def RX8 : String := "ForesightHubModel"
def TX8 : u_T := fun k => match k with
  | _ => ("", "", "", false)
def tyX8 : Nat → FieldType := fun k => match k with
  | _ => .int
abbrev wsX80 : List Cond := u_ws RX8 TX8 0
theorem nmX8 : ∀ a, a < 0 → ∀ b, b < 0 → a ≠ b → (TX8 a).2.1 ≠ (TX8 b).2.1 := by decide +kernel
theorem tyX8_ok : ∀ k, k < 0 → parseFieldDescriptor (TX8 k).2.2.1 = some (tyX8 k) := by decide +kernel
def RJ5 : String := "java/lang/AbstractStringBuilder"
def TJ5 : u_T := fun k => match k with
  | _ => ("", "", "", false)
def tyJ5 : Nat → FieldType := fun k => match k with
  | _ => .int
abbrev wsJ50 : List Cond := u_ws RJ5 TJ5 0
theorem nmJ5 : ∀ a, a < 0 → ∀ b, b < 0 → a ≠ b → (TJ5 a).2.1 ≠ (TJ5 b).2.1 := by decide +kernel
theorem tyJ5_ok : ∀ k, k < 0 → parseFieldDescriptor (TJ5 k).2.2.1 = some (tyJ5 k) := by decide +kernel
abbrev cJ5_init_a7421 : ByteArray := prog_11_method_3_code
def yJ5_init_a7421 : MethodName := ⟨RJ5, "<init>", "(Ljava/lang/String;)V"⟩
abbrev cJ5_length_8abf5 : ByteArray := prog_11_method_6_code
def yJ5_length_8abf5 : MethodName := ⟨RJ5, "length", "()I"⟩
abbrev cJ5_ensureCapacityInternal_d00df : ByteArray := prog_11_method_9_code
def yJ5_ensureCapacityInternal_d00df : MethodName := ⟨RJ5, "ensureCapacityInternal", "(I)V"⟩
abbrev cJ5_newCapacity_0f7a4 : ByteArray := prog_11_method_10_code
def yJ5_newCapacity_0f7a4 : MethodName := ⟨RJ5, "newCapacity", "(I)I"⟩
abbrev cJ5_inflate_da8c8 : ByteArray := prog_11_method_11_code
def yJ5_inflate_da8c8 : MethodName := ⟨RJ5, "inflate", "()V"⟩
abbrev cJ5_charAt_5068e : ByteArray := prog_11_method_14_code
def yJ5_charAt_5068e : MethodName := ⟨RJ5, "charAt", "(I)C"⟩
abbrev cJ5_append_cf1ce : ByteArray := prog_11_method_22_code
def yJ5_append_cf1ce : MethodName := ⟨RJ5, "append", "(Ljava/lang/String;)Ljava/lang/AbstractStringBuilder;"⟩
abbrev cJ5_appendNull_278bc : ByteArray := prog_11_method_26_code
def yJ5_appendNull_278bc : MethodName := ⟨RJ5, "appendNull", "()Ljava/lang/AbstractStringBuilder;"⟩
abbrev cJ5_append_3fe6f : ByteArray := prog_11_method_31_code
def yJ5_append_3fe6f : MethodName := ⟨RJ5, "append", "(C)Ljava/lang/AbstractStringBuilder;"⟩
abbrev cJ5_append_c97b9 : ByteArray := prog_11_method_32_code
def yJ5_append_c97b9 : MethodName := ⟨RJ5, "append", "(I)Ljava/lang/AbstractStringBuilder;"⟩
abbrev cJ5_isLatin1_aae02 : ByteArray := prog_11_method_68_code
def yJ5_isLatin1_aae02 : MethodName := ⟨RJ5, "isLatin1", "()Z"⟩
abbrev cJ5_inflateIfNeededFor_a7421 : ByteArray := prog_11_method_71_code
def yJ5_inflateIfNeededFor_a7421 : MethodName := ⟨RJ5, "inflateIfNeededFor", "(Ljava/lang/String;)V"⟩
abbrev cJ5_putStringAt_47b60 : ByteArray := prog_11_method_73_code
def yJ5_putStringAt_47b60 : MethodName := ⟨RJ5, "putStringAt", "(ILjava/lang/String;)V"⟩
def RJx8e188 : String := "java/lang/Cloneable"
def TJx8e188 : u_T := fun k => match k with
  | _ => ("", "", "", false)
def tyJx8e188 : Nat → FieldType := fun k => match k with
  | _ => .int
abbrev wsJx8e1880 : List Cond := u_ws RJx8e188 TJx8e188 0
theorem nmJx8e188 : ∀ a, a < 0 → ∀ b, b < 0 → a ≠ b → (TJx8e188 a).2.1 ≠ (TJx8e188 b).2.1 := by decide +kernel
theorem tyJx8e188_ok : ∀ k, k < 0 → parseFieldDescriptor (TJx8e188 k).2.2.1 = some (tyJx8e188 k) := by decide +kernel
def RJ6 : String := "java/lang/Integer"
def TJ6 : u_T := fun k => match k with
  | _ => ("", "", "", false)
def tyJ6 : Nat → FieldType := fun k => match k with
  | _ => .int
abbrev wsJ60 : List Cond := u_ws RJ6 TJ6 0
theorem nmJ6 : ∀ a, a < 0 → ∀ b, b < 0 → a ≠ b → (TJ6 a).2.1 ≠ (TJ6 b).2.1 := by decide +kernel
theorem tyJ6_ok : ∀ k, k < 0 → parseFieldDescriptor (TJ6 k).2.2.1 = some (tyJ6 k) := by decide +kernel
abbrev cJ6_getChars_ba4f3 : ByteArray := prog_17_method_12_code
def yJ6_getChars_ba4f3 : MethodName := ⟨RJ6, "getChars", "(II[B)I"⟩
abbrev cJ6_stringSize_0f7a4 : ByteArray := prog_17_method_13_code
def yJ6_stringSize_0f7a4 : MethodName := ⟨RJ6, "stringSize", "(I)I"⟩
abbrev cJ6_bitCount_0f7a4 : ByteArray := prog_17_method_49_code
def yJ6_bitCount_0f7a4 : MethodName := ⟨RJ6, "bitCount", "(I)I"⟩
def RJ9 : String := "java/lang/Math"
def TJ9 : u_T := fun k => match k with
  | _ => ("", "", "", false)
def tyJ9 : Nat → FieldType := fun k => match k with
  | _ => .int
abbrev wsJ90 : List Cond := u_ws RJ9 TJ9 0
theorem nmJ9 : ∀ a, a < 0 → ∀ b, b < 0 → a ≠ b → (TJ9 a).2.1 ≠ (TJ9 b).2.1 := by decide +kernel
theorem tyJ9_ok : ∀ k, k < 0 → parseFieldDescriptor (TJ9 k).2.2.1 = some (tyJ9 k) := by decide +kernel
abbrev cJ9_floorMod_7cf53 : ByteArray := prog_18_method_50_code
def yJ9_floorMod_7cf53 : MethodName := ⟨RJ9, "floorMod", "(II)I"⟩
abbrev cJ9_max_7cf53 : ByteArray := prog_18_method_65_code
def yJ9_max_7cf53 : MethodName := ⟨RJ9, "max", "(II)I"⟩
abbrev cJ9_min_7cf53 : ByteArray := prog_18_method_69_code
def yJ9_min_7cf53 : MethodName := ⟨RJ9, "min", "(II)I"⟩
def RJ0 : String := "java/lang/String"
def TJ0 : u_T := fun k => match k with
  | _ => ("", "", "", false)
def tyJ0 : Nat → FieldType := fun k => match k with
  | _ => .int
abbrev wsJ00 : List Cond := u_ws RJ0 TJ0 0
theorem nmJ0 : ∀ a, a < 0 → ∀ b, b < 0 → a ≠ b → (TJ0 a).2.1 ≠ (TJ0 b).2.1 := by decide +kernel
theorem tyJ0_ok : ∀ k, k < 0 → parseFieldDescriptor (TJ0 k).2.2.1 = some (tyJ0 k) := by decide +kernel
abbrev cJ0_length_8abf5 : ByteArray := prog_20_method_54_code
def yJ0_length_8abf5 : MethodName := ⟨RJ0, "length", "()I"⟩
abbrev cJ0_charAt_5068e : ByteArray := prog_20_method_56_code
def yJ0_charAt_5068e : MethodName := ⟨RJ0, "charAt", "(I)C"⟩
abbrev cJ0_getBytes_840e7 : ByteArray := prog_20_method_147_code
def yJ0_getBytes_840e7 : MethodName := ⟨RJ0, "getBytes", "([BIB)V"⟩
abbrev cJ0_coder_7d493 : ByteArray := prog_20_method_152_code
def yJ0_coder_7d493 : MethodName := ⟨RJ0, "coder", "()B"⟩
abbrev cJ0_isLatin1_aae02 : ByteArray := prog_20_method_154_code
def yJ0_isLatin1_aae02 : MethodName := ⟨RJ0, "isLatin1", "()Z"⟩
abbrev cJ0_checkIndex_df160 : ByteArray := prog_20_method_155_code
def yJ0_checkIndex_df160 : MethodName := ⟨RJ0, "checkIndex", "(II)V"⟩
abbrev cJ0_checkBoundsOffCount_cabcc : ByteArray := prog_20_method_157_code
def yJ0_checkBoundsOffCount_cabcc : MethodName := ⟨RJ0, "checkBoundsOffCount", "(III)I"⟩
abbrev cJ0_checkBoundsBeginEnd_23922 : ByteArray := prog_20_method_158_code
def yJ0_checkBoundsBeginEnd_23922 : MethodName := ⟨RJ0, "checkBoundsBeginEnd", "(III)V"⟩
def RJ4 : String := "java/lang/StringBuilder"
def TJ4 : u_T := fun k => match k with
  | 0 => ("java/lang/AbstractStringBuilder", "value", "[B", false)
  | 1 => ("java/lang/AbstractStringBuilder", "coder", "B", false)
  | 2 => ("java/lang/AbstractStringBuilder", "maybeLatin1", "Z", false)
  | _ => ("java/lang/AbstractStringBuilder", "count", "I", false)
def tyJ4 : Nat → FieldType := fun k => match k with
  | 0 => .array .byte
  | 1 => .byte
  | 2 => .boolean
  | _ => .int
abbrev wsJ40 : List Cond := u_ws RJ4 TJ4 4
theorem nmJ4 : ∀ a, a < 4 → ∀ b, b < 4 → a ≠ b → (TJ4 a).2.1 ≠ (TJ4 b).2.1 := by decide +kernel
theorem tyJ4_ok : ∀ k, k < 4 → parseFieldDescriptor (TJ4 k).2.2.1 = some (tyJ4 k) := by decide +kernel
abbrev cJ4_init_a7421 : ByteArray := prog_21_method_3_code
def yJ4_init_a7421 : MethodName := ⟨RJ4, "<init>", "(Ljava/lang/String;)V"⟩
abbrev cJ4_append_15ec4 : ByteArray := prog_21_method_7_code
def yJ4_append_15ec4 : MethodName := ⟨RJ4, "append", "(Ljava/lang/String;)Ljava/lang/StringBuilder;"⟩
abbrev cJ4_append_cf468 : ByteArray := prog_21_method_14_code
def yJ4_append_cf468 : MethodName := ⟨RJ4, "append", "(C)Ljava/lang/StringBuilder;"⟩
abbrev cJ4_append_bf812 : ByteArray := prog_21_method_15_code
def yJ4_append_bf812 : MethodName := ⟨RJ4, "append", "(I)Ljava/lang/StringBuilder;"⟩
abbrev cJ4_append_cf1ce : ByteArray := prog_21_method_80_code
def yJ4_append_cf1ce : MethodName := ⟨RJ4, "append", "(Ljava/lang/String;)Ljava/lang/AbstractStringBuilder;"⟩
abbrev cJ4_charAt_5068e : ByteArray := prog_21_method_88_code
def yJ4_charAt_5068e : MethodName := ⟨RJ4, "charAt", "(I)C"⟩
abbrev cJ4_length_8abf5 : ByteArray := prog_21_method_93_code
def yJ4_length_8abf5 : MethodName := ⟨RJ4, "length", "()I"⟩
def RJ1 : String := "java/lang/StringLatin1"
def TJ1 : u_T := fun k => match k with
  | _ => ("", "", "", false)
def tyJ1 : Nat → FieldType := fun k => match k with
  | _ => .int
abbrev wsJ10 : List Cond := u_ws RJ1 TJ1 0
theorem nmJ1 : ∀ a, a < 0 → ∀ b, b < 0 → a ≠ b → (TJ1 a).2.1 ≠ (TJ1 b).2.1 := by decide +kernel
theorem tyJ1_ok : ∀ k, k < 0 → parseFieldDescriptor (TJ1 k).2.2.1 = some (tyJ1 k) := by decide +kernel
abbrev cJ1_charAt_3b067 : ByteArray := prog_22_method_2_code
def yJ1_charAt_3b067 : MethodName := ⟨RJ1, "charAt", "([BI)C"⟩
abbrev cJ1_canEncode_fc78d : ByteArray := prog_22_method_3_code
def yJ1_canEncode_fc78d : MethodName := ⟨RJ1, "canEncode", "(C)Z"⟩
abbrev cJ1_inflate_0e8fd : ByteArray := prog_22_method_50_code
def yJ1_inflate_0e8fd : MethodName := ⟨RJ1, "inflate", "([BI[BII)V"⟩
def RJ2 : String := "java/lang/StringUTF16"
def TJ2 : u_T := fun k => match k with
  | _ => ("", "", "", false)
def tyJ2 : Nat → FieldType := fun k => match k with
  | _ => .int
abbrev wsJ20 : List Cond := u_ws RJ2 TJ2 0
theorem nmJ2 : ∀ a, a < 0 → ∀ b, b < 0 → a ≠ b → (TJ2 a).2.1 ≠ (TJ2 b).2.1 := by decide +kernel
theorem tyJ2_ok : ∀ k, k < 0 → parseFieldDescriptor (TJ2 k).2.2.1 = some (tyJ2 k) := by decide +kernel
abbrev cJ2_newBytesFor_77867 : ByteArray := prog_23_method_2_code
def yJ2_newBytesFor_77867 : MethodName := ⟨RJ2, "newBytesFor", "(I)[B"⟩
abbrev cJ2_newBytesLength_0f7a4 : ByteArray := prog_23_method_3_code
def yJ2_newBytesLength_0f7a4 : MethodName := ⟨RJ2, "newBytesLength", "(I)I"⟩
abbrev cJ2_putChar_b72d1 : ByteArray := prog_23_method_4_code
def yJ2_putChar_b72d1 : MethodName := ⟨RJ2, "putChar", "([BII)V"⟩
abbrev cJ2_getChar_3b067 : ByteArray := prog_23_method_5_code
def yJ2_getChar_3b067 : MethodName := ⟨RJ2, "getChar", "([BI)C"⟩
abbrev cJ2_length_9d52b : ByteArray := prog_23_method_6_code
def yJ2_length_9d52b : MethodName := ⟨RJ2, "length", "([B)I"⟩
abbrev cJ2_putCharSB_b72d1 : ByteArray := prog_23_method_71_code
def yJ2_putCharSB_b72d1 : MethodName := ⟨RJ2, "putCharSB", "([BII)V"⟩
abbrev cJ2_getChars_46870 : ByteArray := prog_23_method_77_code
def yJ2_getChars_46870 : MethodName := ⟨RJ2, "getChars", "(III[B)I"⟩
abbrev cJ2_putCharsAt_cd4e5 : ByteArray := prog_23_method_81_code
def yJ2_putCharsAt_cd4e5 : MethodName := ⟨RJ2, "putCharsAt", "([BICCCC)I"⟩
abbrev cJ2_charAt_3b067 : ByteArray := prog_23_method_83_code
def yJ2_charAt_3b067 : MethodName := ⟨RJ2, "charAt", "([BI)C"⟩
abbrev cJ2_inflate_0e8fd : ByteArray := prog_23_method_86_code
def yJ2_inflate_0e8fd : MethodName := ⟨RJ2, "inflate", "([BI[BII)V"⟩
abbrev cJ2_getChars_ba4f3 : ByteArray := prog_23_method_89_code
def yJ2_getChars_ba4f3 : MethodName := ⟨RJ2, "getChars", "(II[B)I"⟩
abbrev cJ2_checkIndex_2214a : ByteArray := prog_23_method_91_code
def yJ2_checkIndex_2214a : MethodName := ⟨RJ2, "checkIndex", "(I[B)V"⟩
abbrev cJ2_checkBoundsBeginEnd_d044e : ByteArray := prog_23_method_93_code
def yJ2_checkBoundsBeginEnd_d044e : MethodName := ⟨RJ2, "checkBoundsBeginEnd", "(II[B)V"⟩
abbrev cJ2_checkBoundsOffCount_d044e : ByteArray := prog_23_method_94_code
def yJ2_checkBoundsOffCount_d044e : MethodName := ⟨RJ2, "checkBoundsOffCount", "(II[B)V"⟩
def RJ10 : String := "java/lang/System"
def TJ10 : u_T := fun k => match k with
  | _ => ("", "", "", false)
def tyJ10 : Nat → FieldType := fun k => match k with
  | _ => .int
abbrev wsJ100 : List Cond := u_ws RJ10 TJ10 0
theorem nmJ10 : ∀ a, a < 0 → ∀ b, b < 0 → a ≠ b → (TJ10 a).2.1 ≠ (TJ10 b).2.1 := by decide +kernel
theorem tyJ10_ok : ∀ k, k < 0 → parseFieldDescriptor (TJ10 k).2.2.1 = some (tyJ10 k) := by decide +kernel
def RJ7 : String := "java/util/Arrays"
def TJ7 : u_T := fun k => match k with
  | _ => ("", "", "", false)
def tyJ7 : Nat → FieldType := fun k => match k with
  | _ => .int
abbrev wsJ70 : List Cond := u_ws RJ7 TJ7 0
theorem nmJ7 : ∀ a, a < 0 → ∀ b, b < 0 → a ≠ b → (TJ7 a).2.1 ≠ (TJ7 b).2.1 := by decide +kernel
theorem tyJ7_ok : ∀ k, k < 0 → parseFieldDescriptor (TJ7 k).2.2.1 = some (tyJ7 k) := by decide +kernel
abbrev cJ7_copyOf_9075b : ByteArray := prog_26_method_121_code
def yJ7_copyOf_9075b : MethodName := ⟨RJ7, "copyOf", "([BI)[B"⟩
def RJ8 : String := "jdk/internal/util/ArraysSupport"
def TJ8 : u_T := fun k => match k with
  | _ => ("", "", "", false)
def tyJ8 : Nat → FieldType := fun k => match k with
  | _ => .int
abbrev wsJ80 : List Cond := u_ws RJ8 TJ8 0
theorem nmJ8 : ∀ a, a < 0 → ∀ b, b < 0 → a ≠ b → (TJ8 a).2.1 ≠ (TJ8 b).2.1 := by decide +kernel
theorem tyJ8_ok : ∀ k, k < 0 → parseFieldDescriptor (TJ8 k).2.2.1 = some (tyJ8 k) := by decide +kernel
abbrev cJ8_newLength_cabcc : ByteArray := prog_27_method_27_code
def yJ8_newLength_cabcc : MethodName := ⟨RJ8, "newLength", "(III)I"⟩
abbrev cJ8_hugeLength_7cf53 : ByteArray := prog_27_method_28_code
def yJ8_hugeLength_7cf53 : MethodName := ⟨RJ8, "hugeLength", "(II)I"⟩
def RJ3 : String := "jdk/internal/util/Preconditions"
def TJ3 : u_T := fun k => match k with
  | _ => ("", "", "", false)
def tyJ3 : Nat → FieldType := fun k => match k with
  | _ => .int
abbrev wsJ30 : List Cond := u_ws RJ3 TJ3 0
theorem nmJ3 : ∀ a, a < 0 → ∀ b, b < 0 → a ≠ b → (TJ3 a).2.1 ≠ (TJ3 b).2.1 := by decide +kernel
theorem tyJ3_ok : ∀ k, k < 0 → parseFieldDescriptor (TJ3 k).2.2.1 = some (tyJ3 k) := by decide +kernel
abbrev cJ3_checkIndex_8e157 : ByteArray := prog_28_method_11_code
def yJ3_checkIndex_8e157 : MethodName := ⟨RJ3, "checkIndex", "(IILjava/util/function/BiFunction;)I"⟩
abbrev cJ3_checkFromToIndex_8c36e : ByteArray := prog_28_method_12_code
def yJ3_checkFromToIndex_8c36e : MethodName := ⟨RJ3, "checkFromToIndex", "(IIILjava/util/function/BiFunction;)I"⟩
abbrev cJ3_checkFromIndexSize_8c36e : ByteArray := prog_28_method_13_code
def yJ3_checkFromIndexSize_8c36e : MethodName := ⟨RJ3, "checkFromIndexSize", "(IIILjava/util/function/BiFunction;)I"⟩
def RL : String := "ForesightHubLaw"
abbrev cL_cell : ByteArray := method_2_code
def yL_cell : MethodName := ⟨RL, "cell", "([II)I"⟩
abbrev cL_pick : ByteArray := method_3_code
def yL_pick : MethodName := ⟨RL, "pick", "([III)I"⟩
abbrev cL_kind : ByteArray := method_4_code
def yL_kind : MethodName := ⟨RL, "kind", "(I)Ljava/lang/String;"⟩
abbrev cL_begins : ByteArray := method_5_code
def yL_begins : MethodName := ⟨RL, "begins", "(LForesightHub;[I)Z"⟩
abbrev cL_acts : ByteArray := method_6_code
def yL_acts : MethodName := ⟨RL, "acts", "(LForesightHub;[II)Z"⟩
abbrev cL_law : ByteArray := code
def yL_law : MethodName := ⟨RL, "law", "([I)Z"⟩
abbrev cL_isWithin : ByteArray := method_8_code
def yL_isWithin : MethodName := ⟨RL, "isWithin", "(LForesightHub;)Z"⟩
abbrev cL_isForeseen : ByteArray := method_9_code
def yL_isForeseen : MethodName := ⟨RL, "isForeseen", "(LForesightHub;I)Z"⟩
abbrev cL_isTorn : ByteArray := method_10_code
def yL_isTorn : MethodName := ⟨RL, "isTorn", "(LForesightHub;I)Z"⟩
abbrev cL_refuses : ByteArray := method_11_code
def yL_refuses : MethodName := ⟨RL, "refuses", "(LForesightHub;)Z"⟩
theorem dX0_init_0 : decode cX0_init 0 = .ok (.aload_n 0, 1) := by decide +kernel
theorem dX0_init_1 : decode cX0_init 1 = .ok (.invokespecial 3, 3) := by decide +kernel
theorem dX0_init_4 : decode cX0_init 4 = .ok (.aload_n 0, 1) := by decide +kernel
theorem dX0_init_5 : decode cX0_init 5 = .ok (.bipush 8, 2) := by decide +kernel
theorem dX0_init_7 : decode cX0_init 7 = .ok (.newarray .int, 2) := by decide +kernel
theorem dX0_init_9 : decode cX0_init 9 = .ok (.putfield 9, 3) := by decide +kernel
theorem dX0_init_12 : decode cX0_init 12 = .ok (.aload_n 0, 1) := by decide +kernel
theorem dX0_init_13 : decode cX0_init 13 = .ok (.bipush 96, 2) := by decide +kernel
theorem dX0_init_15 : decode cX0_init 15 = .ok (.newarray .int, 2) := by decide +kernel
theorem dX0_init_17 : decode cX0_init 17 = .ok (.putfield 15, 3) := by decide +kernel
theorem dX0_init_20 : decode cX0_init 20 = .ok (.aload_n 0, 1) := by decide +kernel
theorem dX0_init_21 : decode cX0_init 21 = .ok (.bipush 96, 2) := by decide +kernel
theorem dX0_init_23 : decode cX0_init 23 = .ok (.newarray .int, 2) := by decide +kernel
theorem dX0_init_25 : decode cX0_init 25 = .ok (.putfield 18, 3) := by decide +kernel
theorem dX0_init_28 : decode cX0_init 28 = .ok (.aload_n 0, 1) := by decide +kernel
theorem dX0_init_29 : decode cX0_init 29 = .ok (.bipush 32, 2) := by decide +kernel
theorem dX0_init_31 : decode cX0_init 31 = .ok (.newarray .int, 2) := by decide +kernel
theorem dX0_init_33 : decode cX0_init 33 = .ok (.putfield 21, 3) := by decide +kernel
theorem dX0_init_36 : decode cX0_init 36 = .ok (.aload_n 0, 1) := by decide +kernel
theorem dX0_init_37 : decode cX0_init 37 = .ok (.bipush 32, 2) := by decide +kernel
theorem dX0_init_39 : decode cX0_init 39 = .ok (.newarray .int, 2) := by decide +kernel
theorem dX0_init_41 : decode cX0_init 41 = .ok (.putfield 24, 3) := by decide +kernel
theorem dX0_init_44 : decode cX0_init 44 = .ok (.return_, 1) := by decide +kernel
theorem dX0_clear_0 : decode cX0_clear 0 = .ok (.aload_n 0, 1) := by decide +kernel
theorem dX0_clear_1 : decode cX0_clear 1 = .ok (.iconst 0, 1) := by decide +kernel
theorem dX0_clear_2 : decode cX0_clear 2 = .ok (.putfield 27, 3) := by decide +kernel
theorem dX0_clear_5 : decode cX0_clear 5 = .ok (.iconst 0, 1) := by decide +kernel
theorem dX0_clear_6 : decode cX0_clear 6 = .ok (.istore_n 1, 1) := by decide +kernel
theorem dX0_clear_7 : decode cX0_clear 7 = .ok (.iload_n 1, 1) := by decide +kernel
theorem dX0_clear_8 : decode cX0_clear 8 = .ok (.bipush 32, 2) := by decide +kernel
theorem dX0_clear_10 : decode cX0_clear 10 = .ok (.if_icmp .ge 16, 3) := by decide +kernel
theorem dX0_clear_13 : decode cX0_clear 13 = .ok (.aload_n 0, 1) := by decide +kernel
theorem dX0_clear_14 : decode cX0_clear 14 = .ok (.getfield 24, 3) := by decide +kernel
theorem dX0_clear_17 : decode cX0_clear 17 = .ok (.iload_n 1, 1) := by decide +kernel
theorem dX0_clear_18 : decode cX0_clear 18 = .ok (.iconst 0, 1) := by decide +kernel
theorem dX0_clear_19 : decode cX0_clear 19 = .ok (.iastore, 1) := by decide +kernel
theorem dX0_clear_20 : decode cX0_clear 20 = .ok (.iinc 1 1, 3) := by decide +kernel
theorem dX0_clear_23 : decode cX0_clear 23 = .ok (.goto (-16), 3) := by decide +kernel
theorem dX0_clear_26 : decode cX0_clear 26 = .ok (.iconst 0, 1) := by decide +kernel
theorem dX0_clear_27 : decode cX0_clear 27 = .ok (.istore_n 1, 1) := by decide +kernel
theorem dX0_clear_28 : decode cX0_clear 28 = .ok (.iload_n 1, 1) := by decide +kernel
theorem dX0_clear_29 : decode cX0_clear 29 = .ok (.bipush 8, 2) := by decide +kernel
theorem dX0_clear_31 : decode cX0_clear 31 = .ok (.if_icmp .ge 16, 3) := by decide +kernel
theorem dX0_clear_34 : decode cX0_clear 34 = .ok (.aload_n 0, 1) := by decide +kernel
theorem dX0_clear_35 : decode cX0_clear 35 = .ok (.getfield 9, 3) := by decide +kernel
theorem dX0_clear_38 : decode cX0_clear 38 = .ok (.iload_n 1, 1) := by decide +kernel
theorem dX0_clear_39 : decode cX0_clear 39 = .ok (.iconst 0, 1) := by decide +kernel
theorem dX0_clear_40 : decode cX0_clear 40 = .ok (.iastore, 1) := by decide +kernel
theorem dX0_clear_41 : decode cX0_clear 41 = .ok (.iinc 1 1, 3) := by decide +kernel
theorem dX0_clear_44 : decode cX0_clear 44 = .ok (.goto (-16), 3) := by decide +kernel
theorem dX0_clear_47 : decode cX0_clear 47 = .ok (.return_, 1) := by decide +kernel
theorem dX0_copyFrom_0 : decode cX0_copyFrom 0 = .ok (.aload_n 0, 1) := by decide +kernel
theorem dX0_copyFrom_1 : decode cX0_copyFrom 1 = .ok (.aload_n 1, 1) := by decide +kernel
theorem dX0_copyFrom_2 : decode cX0_copyFrom 2 = .ok (.getfield 27, 3) := by decide +kernel
theorem dX0_copyFrom_5 : decode cX0_copyFrom 5 = .ok (.putfield 27, 3) := by decide +kernel
theorem dX0_copyFrom_8 : decode cX0_copyFrom 8 = .ok (.aload_n 1, 1) := by decide +kernel
theorem dX0_copyFrom_9 : decode cX0_copyFrom 9 = .ok (.getfield 9, 3) := by decide +kernel
theorem dX0_copyFrom_12 : decode cX0_copyFrom 12 = .ok (.iconst 0, 1) := by decide +kernel
theorem dX0_copyFrom_13 : decode cX0_copyFrom 13 = .ok (.aload_n 0, 1) := by decide +kernel
theorem dX0_copyFrom_14 : decode cX0_copyFrom 14 = .ok (.getfield 9, 3) := by decide +kernel
theorem dX0_copyFrom_17 : decode cX0_copyFrom 17 = .ok (.iconst 0, 1) := by decide +kernel
theorem dX0_copyFrom_18 : decode cX0_copyFrom 18 = .ok (.bipush 8, 2) := by decide +kernel
theorem dX0_copyFrom_20 : decode cX0_copyFrom 20 = .ok (.invokestatic 31, 3) := by decide +kernel
theorem dX0_copyFrom_23 : decode cX0_copyFrom 23 = .ok (.aload_n 1, 1) := by decide +kernel
theorem dX0_copyFrom_24 : decode cX0_copyFrom 24 = .ok (.getfield 15, 3) := by decide +kernel
theorem dX0_copyFrom_27 : decode cX0_copyFrom 27 = .ok (.iconst 0, 1) := by decide +kernel
theorem dX0_copyFrom_28 : decode cX0_copyFrom 28 = .ok (.aload_n 0, 1) := by decide +kernel
theorem dX0_copyFrom_29 : decode cX0_copyFrom 29 = .ok (.getfield 15, 3) := by decide +kernel
theorem dX0_copyFrom_32 : decode cX0_copyFrom 32 = .ok (.iconst 0, 1) := by decide +kernel
theorem dX0_copyFrom_33 : decode cX0_copyFrom 33 = .ok (.bipush 96, 2) := by decide +kernel
theorem dX0_copyFrom_35 : decode cX0_copyFrom 35 = .ok (.invokestatic 31, 3) := by decide +kernel
theorem dX0_copyFrom_38 : decode cX0_copyFrom 38 = .ok (.aload_n 1, 1) := by decide +kernel
theorem dX0_copyFrom_39 : decode cX0_copyFrom 39 = .ok (.getfield 18, 3) := by decide +kernel
theorem dX0_copyFrom_42 : decode cX0_copyFrom 42 = .ok (.iconst 0, 1) := by decide +kernel
theorem dX0_copyFrom_43 : decode cX0_copyFrom 43 = .ok (.aload_n 0, 1) := by decide +kernel
theorem dX0_copyFrom_44 : decode cX0_copyFrom 44 = .ok (.getfield 18, 3) := by decide +kernel
theorem dX0_copyFrom_47 : decode cX0_copyFrom 47 = .ok (.iconst 0, 1) := by decide +kernel
theorem dX0_copyFrom_48 : decode cX0_copyFrom 48 = .ok (.bipush 96, 2) := by decide +kernel
theorem dX0_copyFrom_50 : decode cX0_copyFrom 50 = .ok (.invokestatic 31, 3) := by decide +kernel
theorem dX0_copyFrom_53 : decode cX0_copyFrom 53 = .ok (.aload_n 1, 1) := by decide +kernel
theorem dX0_copyFrom_54 : decode cX0_copyFrom 54 = .ok (.getfield 21, 3) := by decide +kernel
theorem dX0_copyFrom_57 : decode cX0_copyFrom 57 = .ok (.iconst 0, 1) := by decide +kernel
theorem dX0_copyFrom_58 : decode cX0_copyFrom 58 = .ok (.aload_n 0, 1) := by decide +kernel
theorem dX0_copyFrom_59 : decode cX0_copyFrom 59 = .ok (.getfield 21, 3) := by decide +kernel
theorem dX0_copyFrom_62 : decode cX0_copyFrom 62 = .ok (.iconst 0, 1) := by decide +kernel
theorem dX0_copyFrom_63 : decode cX0_copyFrom 63 = .ok (.bipush 32, 2) := by decide +kernel
theorem dX0_copyFrom_65 : decode cX0_copyFrom 65 = .ok (.invokestatic 31, 3) := by decide +kernel
theorem dX0_copyFrom_68 : decode cX0_copyFrom 68 = .ok (.aload_n 1, 1) := by decide +kernel
theorem dX0_copyFrom_69 : decode cX0_copyFrom 69 = .ok (.getfield 24, 3) := by decide +kernel
theorem dX0_copyFrom_72 : decode cX0_copyFrom 72 = .ok (.iconst 0, 1) := by decide +kernel
theorem dX0_copyFrom_73 : decode cX0_copyFrom 73 = .ok (.aload_n 0, 1) := by decide +kernel
theorem dX0_copyFrom_74 : decode cX0_copyFrom 74 = .ok (.getfield 24, 3) := by decide +kernel
theorem dX0_copyFrom_77 : decode cX0_copyFrom 77 = .ok (.iconst 0, 1) := by decide +kernel
theorem dX0_copyFrom_78 : decode cX0_copyFrom 78 = .ok (.bipush 32, 2) := by decide +kernel
theorem dX0_copyFrom_80 : decode cX0_copyFrom 80 = .ok (.invokestatic 31, 3) := by decide +kernel
theorem dX0_copyFrom_83 : decode cX0_copyFrom 83 = .ok (.return_, 1) := by decide +kernel
theorem dX0_add_0 : decode cX0_add 0 = .ok (.iload_n 1, 1) := by decide +kernel
theorem dX0_add_1 : decode cX0_add 1 = .ok (.ifCond .lt 18, 3) := by decide +kernel
theorem dX0_add_4 : decode cX0_add 4 = .ok (.iload_n 1, 1) := by decide +kernel
theorem dX0_add_5 : decode cX0_add 5 = .ok (.bipush 8, 2) := by decide +kernel
theorem dX0_add_7 : decode cX0_add 7 = .ok (.if_icmp .ge 12, 3) := by decide +kernel
theorem dX0_add_10 : decode cX0_add 10 = .ok (.iload_n 2, 1) := by decide +kernel
theorem dX0_add_11 : decode cX0_add 11 = .ok (.ifCond .lt 8, 3) := by decide +kernel
theorem dX0_add_14 : decode cX0_add 14 = .ok (.iload_n 2, 1) := by decide +kernel
theorem dX0_add_15 : decode cX0_add 15 = .ok (.iconst 4, 1) := by decide +kernel
theorem dX0_add_16 : decode cX0_add 16 = .ok (.if_icmp .lt 4, 3) := by decide +kernel
theorem dX0_add_19 : decode cX0_add 19 = .ok (.return_, 1) := by decide +kernel
theorem dX0_add_20 : decode cX0_add 20 = .ok (.aload_n 0, 1) := by decide +kernel
theorem dX0_add_21 : decode cX0_add 21 = .ok (.getfield 9, 3) := by decide +kernel
theorem dX0_add_24 : decode cX0_add 24 = .ok (.iload_n 1, 1) := by decide +kernel
theorem dX0_add_25 : decode cX0_add 25 = .ok (.iaload, 1) := by decide +kernel
theorem dX0_add_26 : decode cX0_add 26 = .ok (.bipush 12, 2) := by decide +kernel
theorem dX0_add_28 : decode cX0_add 28 = .ok (.if_icmp .lt 8, 3) := by decide +kernel
theorem dX0_add_31 : decode cX0_add 31 = .ok (.aload_n 0, 1) := by decide +kernel
theorem dX0_add_32 : decode cX0_add 32 = .ok (.iload_n 1, 1) := by decide +kernel
theorem dX0_add_33 : decode cX0_add 33 = .ok (.invokevirtual 37, 3) := by decide +kernel
theorem dX0_add_36 : decode cX0_add 36 = .ok (.iload_n 1, 1) := by decide +kernel
theorem dX0_add_37 : decode cX0_add 37 = .ok (.bipush 12, 2) := by decide +kernel
theorem dX0_add_39 : decode cX0_add 39 = .ok (.imul, 1) := by decide +kernel
theorem dX0_add_40 : decode cX0_add 40 = .ok (.aload_n 0, 1) := by decide +kernel
theorem dX0_add_41 : decode cX0_add 41 = .ok (.getfield 9, 3) := by decide +kernel
theorem dX0_add_44 : decode cX0_add 44 = .ok (.iload_n 1, 1) := by decide +kernel
theorem dX0_add_45 : decode cX0_add 45 = .ok (.iaload, 1) := by decide +kernel
theorem dX0_add_46 : decode cX0_add 46 = .ok (.iadd, 1) := by decide +kernel
theorem dX0_add_47 : decode cX0_add 47 = .ok (.istore 4, 2) := by decide +kernel
theorem dX0_add_49 : decode cX0_add 49 = .ok (.iload 4, 2) := by decide +kernel
theorem dX0_add_51 : decode cX0_add 51 = .ok (.ifCond .lt 39, 3) := by decide +kernel
theorem dX0_add_54 : decode cX0_add 54 = .ok (.iload 4, 2) := by decide +kernel
theorem dX0_add_56 : decode cX0_add 56 = .ok (.aload_n 0, 1) := by decide +kernel
theorem dX0_add_57 : decode cX0_add 57 = .ok (.getfield 15, 3) := by decide +kernel
theorem dX0_add_60 : decode cX0_add 60 = .ok (.arraylength, 1) := by decide +kernel
theorem dX0_add_61 : decode cX0_add 61 = .ok (.if_icmp .ge 29, 3) := by decide +kernel
theorem dX0_add_64 : decode cX0_add 64 = .ok (.aload_n 0, 1) := by decide +kernel
theorem dX0_add_65 : decode cX0_add 65 = .ok (.getfield 15, 3) := by decide +kernel
theorem dX0_add_68 : decode cX0_add 68 = .ok (.iload 4, 2) := by decide +kernel
theorem dX0_add_70 : decode cX0_add 70 = .ok (.iload_n 2, 1) := by decide +kernel
theorem dX0_add_71 : decode cX0_add 71 = .ok (.iastore, 1) := by decide +kernel
theorem dX0_add_72 : decode cX0_add 72 = .ok (.aload_n 0, 1) := by decide +kernel
theorem dX0_add_73 : decode cX0_add 73 = .ok (.getfield 18, 3) := by decide +kernel
theorem dX0_add_76 : decode cX0_add 76 = .ok (.iload 4, 2) := by decide +kernel
theorem dX0_add_78 : decode cX0_add 78 = .ok (.iload_n 3, 1) := by decide +kernel
theorem dX0_add_79 : decode cX0_add 79 = .ok (.iastore, 1) := by decide +kernel
theorem dX0_add_80 : decode cX0_add 80 = .ok (.aload_n 0, 1) := by decide +kernel
theorem dX0_add_81 : decode cX0_add 81 = .ok (.getfield 9, 3) := by decide +kernel
theorem dX0_add_84 : decode cX0_add 84 = .ok (.iload_n 1, 1) := by decide +kernel
theorem dX0_add_85 : decode cX0_add 85 = .ok (.dup2, 1) := by decide +kernel
theorem dX0_add_86 : decode cX0_add 86 = .ok (.iaload, 1) := by decide +kernel
theorem dX0_add_87 : decode cX0_add 87 = .ok (.iconst 1, 1) := by decide +kernel
theorem dX0_add_88 : decode cX0_add 88 = .ok (.iadd, 1) := by decide +kernel
theorem dX0_add_89 : decode cX0_add 89 = .ok (.iastore, 1) := by decide +kernel
theorem dX0_add_90 : decode cX0_add 90 = .ok (.aload_n 0, 1) := by decide +kernel
theorem dX0_add_91 : decode cX0_add 91 = .ok (.iload_n 1, 1) := by decide +kernel
theorem dX0_add_92 : decode cX0_add 92 = .ok (.iconst 4, 1) := by decide +kernel
theorem dX0_add_93 : decode cX0_add 93 = .ok (.imul, 1) := by decide +kernel
theorem dX0_add_94 : decode cX0_add 94 = .ok (.iload_n 2, 1) := by decide +kernel
theorem dX0_add_95 : decode cX0_add 95 = .ok (.iadd, 1) := by decide +kernel
theorem dX0_add_96 : decode cX0_add 96 = .ok (.invokevirtual 41, 3) := by decide +kernel
theorem dX0_add_99 : decode cX0_add 99 = .ok (.return_, 1) := by decide +kernel
theorem dX0_dropOldest_0 : decode cX0_dropOldest 0 = .ok (.iload_n 1, 1) := by decide +kernel
theorem dX0_dropOldest_1 : decode cX0_dropOldest 1 = .ok (.bipush 12, 2) := by decide +kernel
theorem dX0_dropOldest_3 : decode cX0_dropOldest 3 = .ok (.imul, 1) := by decide +kernel
theorem dX0_dropOldest_4 : decode cX0_dropOldest 4 = .ok (.istore_n 2, 1) := by decide +kernel
theorem dX0_dropOldest_5 : decode cX0_dropOldest 5 = .ok (.iload_n 2, 1) := by decide +kernel
theorem dX0_dropOldest_6 : decode cX0_dropOldest 6 = .ok (.istore_n 3, 1) := by decide +kernel
theorem dX0_dropOldest_7 : decode cX0_dropOldest 7 = .ok (.iload_n 3, 1) := by decide +kernel
theorem dX0_dropOldest_8 : decode cX0_dropOldest 8 = .ok (.iload_n 2, 1) := by decide +kernel
theorem dX0_dropOldest_9 : decode cX0_dropOldest 9 = .ok (.bipush 12, 2) := by decide +kernel
theorem dX0_dropOldest_11 : decode cX0_dropOldest 11 = .ok (.iadd, 1) := by decide +kernel
theorem dX0_dropOldest_12 : decode cX0_dropOldest 12 = .ok (.iconst 1, 1) := by decide +kernel
theorem dX0_dropOldest_13 : decode cX0_dropOldest 13 = .ok (.isub, 1) := by decide +kernel
theorem dX0_dropOldest_14 : decode cX0_dropOldest 14 = .ok (.if_icmp .ge 37, 3) := by decide +kernel
theorem dX0_dropOldest_17 : decode cX0_dropOldest 17 = .ok (.aload_n 0, 1) := by decide +kernel
theorem dX0_dropOldest_18 : decode cX0_dropOldest 18 = .ok (.getfield 15, 3) := by decide +kernel
theorem dX0_dropOldest_21 : decode cX0_dropOldest 21 = .ok (.iload_n 3, 1) := by decide +kernel
theorem dX0_dropOldest_22 : decode cX0_dropOldest 22 = .ok (.aload_n 0, 1) := by decide +kernel
theorem dX0_dropOldest_23 : decode cX0_dropOldest 23 = .ok (.getfield 15, 3) := by decide +kernel
theorem dX0_dropOldest_26 : decode cX0_dropOldest 26 = .ok (.iload_n 3, 1) := by decide +kernel
theorem dX0_dropOldest_27 : decode cX0_dropOldest 27 = .ok (.iconst 1, 1) := by decide +kernel
theorem dX0_dropOldest_28 : decode cX0_dropOldest 28 = .ok (.iadd, 1) := by decide +kernel
theorem dX0_dropOldest_29 : decode cX0_dropOldest 29 = .ok (.iaload, 1) := by decide +kernel
theorem dX0_dropOldest_30 : decode cX0_dropOldest 30 = .ok (.iastore, 1) := by decide +kernel
theorem dX0_dropOldest_31 : decode cX0_dropOldest 31 = .ok (.aload_n 0, 1) := by decide +kernel
theorem dX0_dropOldest_32 : decode cX0_dropOldest 32 = .ok (.getfield 18, 3) := by decide +kernel
theorem dX0_dropOldest_35 : decode cX0_dropOldest 35 = .ok (.iload_n 3, 1) := by decide +kernel
theorem dX0_dropOldest_36 : decode cX0_dropOldest 36 = .ok (.aload_n 0, 1) := by decide +kernel
theorem dX0_dropOldest_37 : decode cX0_dropOldest 37 = .ok (.getfield 18, 3) := by decide +kernel
theorem dX0_dropOldest_40 : decode cX0_dropOldest 40 = .ok (.iload_n 3, 1) := by decide +kernel
theorem dX0_dropOldest_41 : decode cX0_dropOldest 41 = .ok (.iconst 1, 1) := by decide +kernel
theorem dX0_dropOldest_42 : decode cX0_dropOldest 42 = .ok (.iadd, 1) := by decide +kernel
theorem dX0_dropOldest_43 : decode cX0_dropOldest 43 = .ok (.iaload, 1) := by decide +kernel
theorem dX0_dropOldest_44 : decode cX0_dropOldest 44 = .ok (.iastore, 1) := by decide +kernel
theorem dX0_dropOldest_45 : decode cX0_dropOldest 45 = .ok (.iinc 3 1, 3) := by decide +kernel
theorem dX0_dropOldest_48 : decode cX0_dropOldest 48 = .ok (.goto (-41), 3) := by decide +kernel
theorem dX0_dropOldest_51 : decode cX0_dropOldest 51 = .ok (.aload_n 0, 1) := by decide +kernel
theorem dX0_dropOldest_52 : decode cX0_dropOldest 52 = .ok (.getfield 9, 3) := by decide +kernel
theorem dX0_dropOldest_55 : decode cX0_dropOldest 55 = .ok (.iload_n 1, 1) := by decide +kernel
theorem dX0_dropOldest_56 : decode cX0_dropOldest 56 = .ok (.bipush 11, 2) := by decide +kernel
theorem dX0_dropOldest_58 : decode cX0_dropOldest 58 = .ok (.iastore, 1) := by decide +kernel
theorem dX0_dropOldest_59 : decode cX0_dropOldest 59 = .ok (.return_, 1) := by decide +kernel
theorem dX0_countCause_0 : decode cX0_countCause 0 = .ok (.iload_n 1, 1) := by decide +kernel
theorem dX0_countCause_1 : decode cX0_countCause 1 = .ok (.ifCond .lt 9, 3) := by decide +kernel
theorem dX0_countCause_4 : decode cX0_countCause 4 = .ok (.iload_n 1, 1) := by decide +kernel
theorem dX0_countCause_5 : decode cX0_countCause 5 = .ok (.bipush 32, 2) := by decide +kernel
theorem dX0_countCause_7 : decode cX0_countCause 7 = .ok (.if_icmp .lt 4, 3) := by decide +kernel
theorem dX0_countCause_10 : decode cX0_countCause 10 = .ok (.return_, 1) := by decide +kernel
theorem dX0_countCause_11 : decode cX0_countCause 11 = .ok (.aload_n 0, 1) := by decide +kernel
theorem dX0_countCause_12 : decode cX0_countCause 12 = .ok (.getfield 24, 3) := by decide +kernel
theorem dX0_countCause_15 : decode cX0_countCause 15 = .ok (.iload_n 1, 1) := by decide +kernel
theorem dX0_countCause_16 : decode cX0_countCause 16 = .ok (.iaload, 1) := by decide +kernel
theorem dX0_countCause_17 : decode cX0_countCause 17 = .ok (.ifCond .ne 32, 3) := by decide +kernel
theorem dX0_countCause_20 : decode cX0_countCause 20 = .ok (.aload_n 0, 1) := by decide +kernel
theorem dX0_countCause_21 : decode cX0_countCause 21 = .ok (.getfield 27, 3) := by decide +kernel
theorem dX0_countCause_24 : decode cX0_countCause 24 = .ok (.bipush 32, 2) := by decide +kernel
theorem dX0_countCause_26 : decode cX0_countCause 26 = .ok (.if_icmp .ge 23, 3) := by decide +kernel
theorem dX0_countCause_29 : decode cX0_countCause 29 = .ok (.aload_n 0, 1) := by decide +kernel
theorem dX0_countCause_30 : decode cX0_countCause 30 = .ok (.getfield 21, 3) := by decide +kernel
theorem dX0_countCause_33 : decode cX0_countCause 33 = .ok (.aload_n 0, 1) := by decide +kernel
theorem dX0_countCause_34 : decode cX0_countCause 34 = .ok (.getfield 27, 3) := by decide +kernel
theorem dX0_countCause_37 : decode cX0_countCause 37 = .ok (.iload_n 1, 1) := by decide +kernel
theorem dX0_countCause_38 : decode cX0_countCause 38 = .ok (.iastore, 1) := by decide +kernel
theorem dX0_countCause_39 : decode cX0_countCause 39 = .ok (.aload_n 0, 1) := by decide +kernel
theorem dX0_countCause_40 : decode cX0_countCause 40 = .ok (.dup, 1) := by decide +kernel
theorem dX0_countCause_41 : decode cX0_countCause 41 = .ok (.getfield 27, 3) := by decide +kernel
theorem dX0_countCause_44 : decode cX0_countCause 44 = .ok (.iconst 1, 1) := by decide +kernel
theorem dX0_countCause_45 : decode cX0_countCause 45 = .ok (.iadd, 1) := by decide +kernel
theorem dX0_countCause_46 : decode cX0_countCause 46 = .ok (.putfield 27, 3) := by decide +kernel
theorem dX0_countCause_49 : decode cX0_countCause 49 = .ok (.aload_n 0, 1) := by decide +kernel
theorem dX0_countCause_50 : decode cX0_countCause 50 = .ok (.getfield 24, 3) := by decide +kernel
theorem dX0_countCause_53 : decode cX0_countCause 53 = .ok (.iload_n 1, 1) := by decide +kernel
theorem dX0_countCause_54 : decode cX0_countCause 54 = .ok (.dup2, 1) := by decide +kernel
theorem dX0_countCause_55 : decode cX0_countCause 55 = .ok (.iaload, 1) := by decide +kernel
theorem dX0_countCause_56 : decode cX0_countCause 56 = .ok (.iconst 1, 1) := by decide +kernel
theorem dX0_countCause_57 : decode cX0_countCause 57 = .ok (.iadd, 1) := by decide +kernel
theorem dX0_countCause_58 : decode cX0_countCause 58 = .ok (.iastore, 1) := by decide +kernel
theorem dX0_countCause_59 : decode cX0_countCause 59 = .ok (.return_, 1) := by decide +kernel
theorem dX0_forget_0 : decode cX0_forget 0 = .ok (.iload_n 1, 1) := by decide +kernel
theorem dX0_forget_1 : decode cX0_forget 1 = .ok (.ifCond .lt 16, 3) := by decide +kernel
theorem dX0_forget_4 : decode cX0_forget 4 = .ok (.iload_n 1, 1) := by decide +kernel
theorem dX0_forget_5 : decode cX0_forget 5 = .ok (.bipush 8, 2) := by decide +kernel
theorem dX0_forget_7 : decode cX0_forget 7 = .ok (.if_icmp .ge 10, 3) := by decide +kernel
theorem dX0_forget_10 : decode cX0_forget 10 = .ok (.aload_n 0, 1) := by decide +kernel
theorem dX0_forget_11 : decode cX0_forget 11 = .ok (.getfield 9, 3) := by decide +kernel
theorem dX0_forget_14 : decode cX0_forget 14 = .ok (.iload_n 1, 1) := by decide +kernel
theorem dX0_forget_15 : decode cX0_forget 15 = .ok (.iconst 0, 1) := by decide +kernel
theorem dX0_forget_16 : decode cX0_forget 16 = .ok (.iastore, 1) := by decide +kernel
theorem dX0_forget_17 : decode cX0_forget 17 = .ok (.return_, 1) := by decide +kernel
theorem dX0_kindOf_0 : decode cX0_kindOf 0 = .ok (.aload_n 0, 1) := by decide +kernel
theorem dX0_kindOf_1 : decode cX0_kindOf 1 = .ok (.iload_n 1, 1) := by decide +kernel
theorem dX0_kindOf_2 : decode cX0_kindOf 2 = .ok (.iload_n 2, 1) := by decide +kernel
theorem dX0_kindOf_3 : decode cX0_kindOf 3 = .ok (.invokevirtual 44, 3) := by decide +kernel
theorem dX0_kindOf_6 : decode cX0_kindOf 6 = .ok (.istore_n 3, 1) := by decide +kernel
theorem dX0_kindOf_7 : decode cX0_kindOf 7 = .ok (.iload_n 3, 1) := by decide +kernel
theorem dX0_kindOf_8 : decode cX0_kindOf 8 = .ok (.iconst (-1), 1) := by decide +kernel
theorem dX0_kindOf_9 : decode cX0_kindOf 9 = .ok (.if_icmp .ne 7, 3) := by decide +kernel
theorem dX0_kindOf_12 : decode cX0_kindOf 12 = .ok (.iconst (-1), 1) := by decide +kernel
theorem dX0_kindOf_13 : decode cX0_kindOf 13 = .ok (.goto 9, 3) := by decide +kernel
theorem dX0_kindOf_16 : decode cX0_kindOf 16 = .ok (.aload_n 0, 1) := by decide +kernel
theorem dX0_kindOf_17 : decode cX0_kindOf 17 = .ok (.getfield 15, 3) := by decide +kernel
theorem dX0_kindOf_20 : decode cX0_kindOf 20 = .ok (.iload_n 3, 1) := by decide +kernel
theorem dX0_kindOf_21 : decode cX0_kindOf 21 = .ok (.iaload, 1) := by decide +kernel
theorem dX0_kindOf_22 : decode cX0_kindOf 22 = .ok (.ireturn, 1) := by decide +kernel
theorem dX0_timeOf_0 : decode cX0_timeOf 0 = .ok (.aload_n 0, 1) := by decide +kernel
theorem dX0_timeOf_1 : decode cX0_timeOf 1 = .ok (.iload_n 1, 1) := by decide +kernel
theorem dX0_timeOf_2 : decode cX0_timeOf 2 = .ok (.iload_n 2, 1) := by decide +kernel
theorem dX0_timeOf_3 : decode cX0_timeOf 3 = .ok (.invokevirtual 44, 3) := by decide +kernel
theorem dX0_timeOf_6 : decode cX0_timeOf 6 = .ok (.istore_n 3, 1) := by decide +kernel
theorem dX0_timeOf_7 : decode cX0_timeOf 7 = .ok (.iload_n 3, 1) := by decide +kernel
theorem dX0_timeOf_8 : decode cX0_timeOf 8 = .ok (.iconst (-1), 1) := by decide +kernel
theorem dX0_timeOf_9 : decode cX0_timeOf 9 = .ok (.if_icmp .ne 7, 3) := by decide +kernel
theorem dX0_timeOf_12 : decode cX0_timeOf 12 = .ok (.iconst (-1), 1) := by decide +kernel
theorem dX0_timeOf_13 : decode cX0_timeOf 13 = .ok (.goto 9, 3) := by decide +kernel
theorem dX0_timeOf_16 : decode cX0_timeOf 16 = .ok (.aload_n 0, 1) := by decide +kernel
theorem dX0_timeOf_17 : decode cX0_timeOf 17 = .ok (.getfield 18, 3) := by decide +kernel
theorem dX0_timeOf_20 : decode cX0_timeOf 20 = .ok (.iload_n 3, 1) := by decide +kernel
theorem dX0_timeOf_21 : decode cX0_timeOf 21 = .ok (.iaload, 1) := by decide +kernel
theorem dX0_timeOf_22 : decode cX0_timeOf 22 = .ok (.ireturn, 1) := by decide +kernel
theorem dX0_placeOf_0 : decode cX0_placeOf 0 = .ok (.iload_n 1, 1) := by decide +kernel
theorem dX0_placeOf_1 : decode cX0_placeOf 1 = .ok (.ifCond .lt 23, 3) := by decide +kernel
theorem dX0_placeOf_4 : decode cX0_placeOf 4 = .ok (.iload_n 1, 1) := by decide +kernel
theorem dX0_placeOf_5 : decode cX0_placeOf 5 = .ok (.bipush 8, 2) := by decide +kernel
theorem dX0_placeOf_7 : decode cX0_placeOf 7 = .ok (.if_icmp .ge 17, 3) := by decide +kernel
theorem dX0_placeOf_10 : decode cX0_placeOf 10 = .ok (.iload_n 2, 1) := by decide +kernel
theorem dX0_placeOf_11 : decode cX0_placeOf 11 = .ok (.ifCond .lt 13, 3) := by decide +kernel
theorem dX0_placeOf_14 : decode cX0_placeOf 14 = .ok (.iload_n 2, 1) := by decide +kernel
theorem dX0_placeOf_15 : decode cX0_placeOf 15 = .ok (.aload_n 0, 1) := by decide +kernel
theorem dX0_placeOf_16 : decode cX0_placeOf 16 = .ok (.getfield 9, 3) := by decide +kernel
theorem dX0_placeOf_19 : decode cX0_placeOf 19 = .ok (.iload_n 1, 1) := by decide +kernel
theorem dX0_placeOf_20 : decode cX0_placeOf 20 = .ok (.iaload, 1) := by decide +kernel
theorem dX0_placeOf_21 : decode cX0_placeOf 21 = .ok (.if_icmp .lt 5, 3) := by decide +kernel
theorem dX0_placeOf_24 : decode cX0_placeOf 24 = .ok (.iconst (-1), 1) := by decide +kernel
theorem dX0_placeOf_25 : decode cX0_placeOf 25 = .ok (.ireturn, 1) := by decide +kernel
theorem dX0_placeOf_26 : decode cX0_placeOf 26 = .ok (.iload_n 1, 1) := by decide +kernel
theorem dX0_placeOf_27 : decode cX0_placeOf 27 = .ok (.bipush 12, 2) := by decide +kernel
theorem dX0_placeOf_29 : decode cX0_placeOf 29 = .ok (.imul, 1) := by decide +kernel
theorem dX0_placeOf_30 : decode cX0_placeOf 30 = .ok (.aload_n 0, 1) := by decide +kernel
theorem dX0_placeOf_31 : decode cX0_placeOf 31 = .ok (.getfield 9, 3) := by decide +kernel
theorem dX0_placeOf_34 : decode cX0_placeOf 34 = .ok (.iload_n 1, 1) := by decide +kernel
theorem dX0_placeOf_35 : decode cX0_placeOf 35 = .ok (.iaload, 1) := by decide +kernel
theorem dX0_placeOf_36 : decode cX0_placeOf 36 = .ok (.iadd, 1) := by decide +kernel
theorem dX0_placeOf_37 : decode cX0_placeOf 37 = .ok (.iconst 1, 1) := by decide +kernel
theorem dX0_placeOf_38 : decode cX0_placeOf 38 = .ok (.isub, 1) := by decide +kernel
theorem dX0_placeOf_39 : decode cX0_placeOf 39 = .ok (.iload_n 2, 1) := by decide +kernel
theorem dX0_placeOf_40 : decode cX0_placeOf 40 = .ok (.isub, 1) := by decide +kernel
theorem dX0_placeOf_41 : decode cX0_placeOf 41 = .ok (.ireturn, 1) := by decide +kernel
theorem dX0_staying_0 : decode cX0_staying 0 = .ok (.iload_n 1, 1) := by decide +kernel
theorem dX0_staying_1 : decode cX0_staying 1 = .ok (.ifCond .lt 9, 3) := by decide +kernel
theorem dX0_staying_4 : decode cX0_staying 4 = .ok (.iload_n 1, 1) := by decide +kernel
theorem dX0_staying_5 : decode cX0_staying 5 = .ok (.bipush 8, 2) := by decide +kernel
theorem dX0_staying_7 : decode cX0_staying 7 = .ok (.if_icmp .lt 5, 3) := by decide +kernel
theorem dX0_staying_10 : decode cX0_staying 10 = .ok (.iconst 0, 1) := by decide +kernel
theorem dX0_staying_11 : decode cX0_staying 11 = .ok (.ireturn, 1) := by decide +kernel
theorem dX0_staying_12 : decode cX0_staying 12 = .ok (.aload_n 0, 1) := by decide +kernel
theorem dX0_staying_13 : decode cX0_staying 13 = .ok (.getfield 9, 3) := by decide +kernel
theorem dX0_staying_16 : decode cX0_staying 16 = .ok (.iload_n 1, 1) := by decide +kernel
theorem dX0_staying_17 : decode cX0_staying 17 = .ok (.iaload, 1) := by decide +kernel
theorem dX0_staying_18 : decode cX0_staying 18 = .ok (.bipush 11, 2) := by decide +kernel
theorem dX0_staying_20 : decode cX0_staying 20 = .ok (.invokestatic 48, 3) := by decide +kernel
theorem dX0_staying_23 : decode cX0_staying 23 = .ok (.ireturn, 1) := by decide +kernel
theorem dX1_init_0 : decode cX1_init 0 = .ok (.aload_n 0, 1) := by decide +kernel
theorem dX1_init_1 : decode cX1_init 1 = .ok (.invokespecial 1, 3) := by decide +kernel
theorem dX1_init_4 : decode cX1_init 4 = .ok (.aload_n 0, 1) := by decide +kernel
theorem dX1_init_5 : decode cX1_init 5 = .ok (.bipush 10, 2) := by decide +kernel
theorem dX1_init_7 : decode cX1_init 7 = .ok (.anewarray 9, 3) := by decide +kernel
theorem dX1_init_10 : decode cX1_init 10 = .ok (.putfield 11, 3) := by decide +kernel
theorem dX1_init_13 : decode cX1_init 13 = .ok (.iconst 0, 1) := by decide +kernel
theorem dX1_init_14 : decode cX1_init 14 = .ok (.istore_n 1, 1) := by decide +kernel
theorem dX1_init_15 : decode cX1_init 15 = .ok (.iload_n 1, 1) := by decide +kernel
theorem dX1_init_16 : decode cX1_init 16 = .ok (.bipush 10, 2) := by decide +kernel
theorem dX1_init_18 : decode cX1_init 18 = .ok (.if_icmp .ge 22, 3) := by decide +kernel
theorem dX1_init_21 : decode cX1_init 21 = .ok (.aload_n 0, 1) := by decide +kernel
theorem dX1_init_22 : decode cX1_init 22 = .ok (.getfield 11, 3) := by decide +kernel
theorem dX1_init_25 : decode cX1_init 25 = .ok (.iload_n 1, 1) := by decide +kernel
theorem dX1_init_26 : decode cX1_init 26 = .ok (.new 9, 3) := by decide +kernel
theorem dX1_init_29 : decode cX1_init 29 = .ok (.dup, 1) := by decide +kernel
theorem dX1_init_30 : decode cX1_init 30 = .ok (.invokespecial 15, 3) := by decide +kernel
theorem dX1_init_33 : decode cX1_init 33 = .ok (.aastore, 1) := by decide +kernel
theorem dX1_init_34 : decode cX1_init 34 = .ok (.iinc 1 1, 3) := by decide +kernel
theorem dX1_init_37 : decode cX1_init 37 = .ok (.goto (-22), 3) := by decide +kernel
theorem dX1_init_40 : decode cX1_init 40 = .ok (.return_, 1) := by decide +kernel
theorem dX1_clear_0 : decode cX1_clear 0 = .ok (.aload_n 0, 1) := by decide +kernel
theorem dX1_clear_1 : decode cX1_clear 1 = .ok (.iconst 0, 1) := by decide +kernel
theorem dX1_clear_2 : decode cX1_clear 2 = .ok (.putfield 16, 3) := by decide +kernel
theorem dX1_clear_5 : decode cX1_clear 5 = .ok (.return_, 1) := by decide +kernel
theorem dX1_remember_0 : decode cX1_remember 0 = .ok (.aload_n 0, 1) := by decide +kernel
theorem dX1_remember_1 : decode cX1_remember 1 = .ok (.getfield 20, 3) := by decide +kernel
theorem dX1_remember_4 : decode cX1_remember 4 = .ok (.ifCond .lt 12, 3) := by decide +kernel
theorem dX1_remember_7 : decode cX1_remember 7 = .ok (.aload_n 0, 1) := by decide +kernel
theorem dX1_remember_8 : decode cX1_remember 8 = .ok (.getfield 20, 3) := by decide +kernel
theorem dX1_remember_11 : decode cX1_remember 11 = .ok (.bipush 10, 2) := by decide +kernel
theorem dX1_remember_13 : decode cX1_remember 13 = .ok (.if_icmp .lt 8, 3) := by decide +kernel
theorem dX1_remember_16 : decode cX1_remember 16 = .ok (.aload_n 0, 1) := by decide +kernel
theorem dX1_remember_17 : decode cX1_remember 17 = .ok (.iconst 0, 1) := by decide +kernel
theorem dX1_remember_18 : decode cX1_remember 18 = .ok (.putfield 20, 3) := by decide +kernel
theorem dX1_remember_21 : decode cX1_remember 21 = .ok (.aload_n 0, 1) := by decide +kernel
theorem dX1_remember_22 : decode cX1_remember 22 = .ok (.getfield 11, 3) := by decide +kernel
theorem dX1_remember_25 : decode cX1_remember 25 = .ok (.aload_n 0, 1) := by decide +kernel
theorem dX1_remember_26 : decode cX1_remember 26 = .ok (.getfield 20, 3) := by decide +kernel
theorem dX1_remember_29 : decode cX1_remember 29 = .ok (.aaload, 1) := by decide +kernel
theorem dX1_remember_30 : decode cX1_remember 30 = .ok (.aload_n 1, 1) := by decide +kernel
theorem dX1_remember_31 : decode cX1_remember 31 = .ok (.invokevirtual 23, 3) := by decide +kernel
theorem dX1_remember_34 : decode cX1_remember 34 = .ok (.aload_n 0, 1) := by decide +kernel
theorem dX1_remember_35 : decode cX1_remember 35 = .ok (.aload_n 0, 1) := by decide +kernel
theorem dX1_remember_36 : decode cX1_remember 36 = .ok (.getfield 20, 3) := by decide +kernel
theorem dX1_remember_39 : decode cX1_remember 39 = .ok (.iconst 1, 1) := by decide +kernel
theorem dX1_remember_40 : decode cX1_remember 40 = .ok (.iadd, 1) := by decide +kernel
theorem dX1_remember_41 : decode cX1_remember 41 = .ok (.bipush 10, 2) := by decide +kernel
theorem dX1_remember_43 : decode cX1_remember 43 = .ok (.irem, 1) := by decide +kernel
theorem dX1_remember_44 : decode cX1_remember 44 = .ok (.putfield 20, 3) := by decide +kernel
theorem dX1_remember_47 : decode cX1_remember 47 = .ok (.aload_n 0, 1) := by decide +kernel
theorem dX1_remember_48 : decode cX1_remember 48 = .ok (.aload_n 0, 1) := by decide +kernel
theorem dX1_remember_49 : decode cX1_remember 49 = .ok (.getfield 16, 3) := by decide +kernel
theorem dX1_remember_52 : decode cX1_remember 52 = .ok (.iconst 1, 1) := by decide +kernel
theorem dX1_remember_53 : decode cX1_remember 53 = .ok (.iadd, 1) := by decide +kernel
theorem dX1_remember_54 : decode cX1_remember 54 = .ok (.bipush 10, 2) := by decide +kernel
theorem dX1_remember_56 : decode cX1_remember 56 = .ok (.invokestatic 27, 3) := by decide +kernel
theorem dX1_remember_59 : decode cX1_remember 59 = .ok (.putfield 16, 3) := by decide +kernel
theorem dX1_remember_62 : decode cX1_remember 62 = .ok (.return_, 1) := by decide +kernel
theorem dX1_takeBack_0 : decode cX1_takeBack 0 = .ok (.aload_n 0, 1) := by decide +kernel
theorem dX1_takeBack_1 : decode cX1_takeBack 1 = .ok (.getfield 16, 3) := by decide +kernel
theorem dX1_takeBack_4 : decode cX1_takeBack 4 = .ok (.ifCond .gt 5, 3) := by decide +kernel
theorem dX1_takeBack_7 : decode cX1_takeBack 7 = .ok (.iconst 0, 1) := by decide +kernel
theorem dX1_takeBack_8 : decode cX1_takeBack 8 = .ok (.ireturn, 1) := by decide +kernel
theorem dX1_takeBack_9 : decode cX1_takeBack 9 = .ok (.aload_n 0, 1) := by decide +kernel
theorem dX1_takeBack_10 : decode cX1_takeBack 10 = .ok (.aload_n 0, 1) := by decide +kernel
theorem dX1_takeBack_11 : decode cX1_takeBack 11 = .ok (.getfield 20, 3) := by decide +kernel
theorem dX1_takeBack_14 : decode cX1_takeBack 14 = .ok (.iconst 1, 1) := by decide +kernel
theorem dX1_takeBack_15 : decode cX1_takeBack 15 = .ok (.isub, 1) := by decide +kernel
theorem dX1_takeBack_16 : decode cX1_takeBack 16 = .ok (.bipush 10, 2) := by decide +kernel
theorem dX1_takeBack_18 : decode cX1_takeBack 18 = .ok (.invokestatic 33, 3) := by decide +kernel
theorem dX1_takeBack_21 : decode cX1_takeBack 21 = .ok (.putfield 20, 3) := by decide +kernel
theorem dX1_takeBack_24 : decode cX1_takeBack 24 = .ok (.aload_n 1, 1) := by decide +kernel
theorem dX1_takeBack_25 : decode cX1_takeBack 25 = .ok (.aload_n 0, 1) := by decide +kernel
theorem dX1_takeBack_26 : decode cX1_takeBack 26 = .ok (.getfield 11, 3) := by decide +kernel
theorem dX1_takeBack_29 : decode cX1_takeBack 29 = .ok (.aload_n 0, 1) := by decide +kernel
theorem dX1_takeBack_30 : decode cX1_takeBack 30 = .ok (.getfield 20, 3) := by decide +kernel
theorem dX1_takeBack_33 : decode cX1_takeBack 33 = .ok (.aaload, 1) := by decide +kernel
theorem dX1_takeBack_34 : decode cX1_takeBack 34 = .ok (.invokevirtual 23, 3) := by decide +kernel
theorem dX1_takeBack_37 : decode cX1_takeBack 37 = .ok (.aload_n 0, 1) := by decide +kernel
theorem dX1_takeBack_38 : decode cX1_takeBack 38 = .ok (.dup, 1) := by decide +kernel
theorem dX1_takeBack_39 : decode cX1_takeBack 39 = .ok (.getfield 16, 3) := by decide +kernel
theorem dX1_takeBack_42 : decode cX1_takeBack 42 = .ok (.iconst 1, 1) := by decide +kernel
theorem dX1_takeBack_43 : decode cX1_takeBack 43 = .ok (.isub, 1) := by decide +kernel
theorem dX1_takeBack_44 : decode cX1_takeBack 44 = .ok (.putfield 16, 3) := by decide +kernel
theorem dX1_takeBack_47 : decode cX1_takeBack 47 = .ok (.iconst 1, 1) := by decide +kernel
theorem dX1_takeBack_48 : decode cX1_takeBack 48 = .ok (.ireturn, 1) := by decide +kernel
theorem dX2_init_0 : decode cX2_init 0 = .ok (.aload_n 0, 1) := by decide +kernel
theorem dX2_init_1 : decode cX2_init 1 = .ok (.invokespecial 3, 3) := by decide +kernel
theorem dX2_init_4 : decode cX2_init 4 = .ok (.aload_n 0, 1) := by decide +kernel
theorem dX2_init_5 : decode cX2_init 5 = .ok (.new 9, 3) := by decide +kernel
theorem dX2_init_8 : decode cX2_init 8 = .ok (.dup, 1) := by decide +kernel
theorem dX2_init_9 : decode cX2_init 9 = .ok (.invokespecial 11, 3) := by decide +kernel
theorem dX2_init_12 : decode cX2_init 12 = .ok (.putfield 12, 3) := by decide +kernel
theorem dX2_init_15 : decode cX2_init 15 = .ok (.aload_n 0, 1) := by decide +kernel
theorem dX2_init_16 : decode cX2_init 16 = .ok (.new 18, 3) := by decide +kernel
theorem dX2_init_19 : decode cX2_init 19 = .ok (.dup, 1) := by decide +kernel
theorem dX2_init_20 : decode cX2_init 20 = .ok (.invokespecial 20, 3) := by decide +kernel
theorem dX2_init_23 : decode cX2_init 23 = .ok (.putfield 21, 3) := by decide +kernel
theorem dX2_init_26 : decode cX2_init 26 = .ok (.aload_n 0, 1) := by decide +kernel
theorem dX2_init_27 : decode cX2_init 27 = .ok (.getfield 21, 3) := by decide +kernel
theorem dX2_init_30 : decode cX2_init 30 = .ok (.aload_n 0, 1) := by decide +kernel
theorem dX2_init_31 : decode cX2_init 31 = .ok (.getfield 12, 3) := by decide +kernel
theorem dX2_init_34 : decode cX2_init 34 = .ok (.getfield 25, 3) := by decide +kernel
theorem dX2_init_37 : decode cX2_init 37 = .ok (.putfield 29, 3) := by decide +kernel
theorem dX2_init_40 : decode cX2_init 40 = .ok (.return_, 1) := by decide +kernel
theorem dX2_begin_0 : decode cX2_begin 0 = .ok (.aload_n 0, 1) := by decide +kernel
theorem dX2_begin_1 : decode cX2_begin 1 = .ok (.aload_n 1, 1) := by decide +kernel
theorem dX2_begin_2 : decode cX2_begin 2 = .ok (.putfield 12, 3) := by decide +kernel
theorem dX2_begin_5 : decode cX2_begin 5 = .ok (.aload_n 0, 1) := by decide +kernel
theorem dX2_begin_6 : decode cX2_begin 6 = .ok (.getfield 21, 3) := by decide +kernel
theorem dX2_begin_9 : decode cX2_begin 9 = .ok (.aload_n 1, 1) := by decide +kernel
theorem dX2_begin_10 : decode cX2_begin 10 = .ok (.invokevirtual 32, 3) := by decide +kernel
theorem dX2_begin_13 : decode cX2_begin 13 = .ok (.aload_n 0, 1) := by decide +kernel
theorem dX2_begin_14 : decode cX2_begin 14 = .ok (.invokevirtual 36, 3) := by decide +kernel
theorem dX2_begin_17 : decode cX2_begin 17 = .ok (.return_, 1) := by decide +kernel
theorem dX2_isDevice_0 : decode cX2_isDevice 0 = .ok (.iload_n 1, 1) := by decide +kernel
theorem dX2_isDevice_1 : decode cX2_isDevice 1 = .ok (.ifCond .lt 24, 3) := by decide +kernel
theorem dX2_isDevice_4 : decode cX2_isDevice 4 = .ok (.iload_n 1, 1) := by decide +kernel
theorem dX2_isDevice_5 : decode cX2_isDevice 5 = .ok (.aload_n 0, 1) := by decide +kernel
theorem dX2_isDevice_6 : decode cX2_isDevice 6 = .ok (.getfield 12, 3) := by decide +kernel
theorem dX2_isDevice_9 : decode cX2_isDevice 9 = .ok (.getfield 39, 3) := by decide +kernel
theorem dX2_isDevice_12 : decode cX2_isDevice 12 = .ok (.if_icmp .ge 13, 3) := by decide +kernel
theorem dX2_isDevice_15 : decode cX2_isDevice 15 = .ok (.iload_n 1, 1) := by decide +kernel
theorem dX2_isDevice_16 : decode cX2_isDevice 16 = .ok (.bipush 8, 2) := by decide +kernel
theorem dX2_isDevice_18 : decode cX2_isDevice 18 = .ok (.if_icmp .ge 7, 3) := by decide +kernel
theorem dX2_isDevice_21 : decode cX2_isDevice 21 = .ok (.iconst 1, 1) := by decide +kernel
theorem dX2_isDevice_22 : decode cX2_isDevice 22 = .ok (.goto 4, 3) := by decide +kernel
theorem dX2_isDevice_25 : decode cX2_isDevice 25 = .ok (.iconst 0, 1) := by decide +kernel
theorem dX2_isDevice_26 : decode cX2_isDevice 26 = .ok (.ireturn, 1) := by decide +kernel
theorem dX2_isPluggedIn_0 : decode cX2_isPluggedIn 0 = .ok (.aload_n 0, 1) := by decide +kernel
theorem dX2_isPluggedIn_1 : decode cX2_isPluggedIn 1 = .ok (.iload_n 1, 1) := by decide +kernel
theorem dX2_isPluggedIn_2 : decode cX2_isPluggedIn 2 = .ok (.invokevirtual 42, 3) := by decide +kernel
theorem dX2_isPluggedIn_5 : decode cX2_isPluggedIn 5 = .ok (.ifCond .eq 20, 3) := by decide +kernel
theorem dX2_isPluggedIn_8 : decode cX2_isPluggedIn 8 = .ok (.aload_n 0, 1) := by decide +kernel
theorem dX2_isPluggedIn_9 : decode cX2_isPluggedIn 9 = .ok (.getfield 21, 3) := by decide +kernel
theorem dX2_isPluggedIn_12 : decode cX2_isPluggedIn 12 = .ok (.getfield 46, 3) := by decide +kernel
theorem dX2_isPluggedIn_15 : decode cX2_isPluggedIn 15 = .ok (.iload_n 1, 1) := by decide +kernel
theorem dX2_isPluggedIn_16 : decode cX2_isPluggedIn 16 = .ok (.iaload, 1) := by decide +kernel
theorem dX2_isPluggedIn_17 : decode cX2_isPluggedIn 17 = .ok (.iconst (-1), 1) := by decide +kernel
theorem dX2_isPluggedIn_18 : decode cX2_isPluggedIn 18 = .ok (.if_icmp .eq 7, 3) := by decide +kernel
theorem dX2_isPluggedIn_21 : decode cX2_isPluggedIn 21 = .ok (.iconst 1, 1) := by decide +kernel
theorem dX2_isPluggedIn_22 : decode cX2_isPluggedIn 22 = .ok (.goto 4, 3) := by decide +kernel
theorem dX2_isPluggedIn_25 : decode cX2_isPluggedIn 25 = .ok (.iconst 0, 1) := by decide +kernel
theorem dX2_isPluggedIn_26 : decode cX2_isPluggedIn 26 = .ok (.ireturn, 1) := by decide +kernel
theorem dX2_inAlarm_0 : decode cX2_inAlarm 0 = .ok (.aload_n 0, 1) := by decide +kernel
theorem dX2_inAlarm_1 : decode cX2_inAlarm 1 = .ok (.iload_n 1, 1) := by decide +kernel
theorem dX2_inAlarm_2 : decode cX2_inAlarm 2 = .ok (.invokevirtual 42, 3) := by decide +kernel
theorem dX2_inAlarm_5 : decode cX2_inAlarm 5 = .ok (.ifCond .eq 20, 3) := by decide +kernel
theorem dX2_inAlarm_8 : decode cX2_inAlarm 8 = .ok (.aload_n 0, 1) := by decide +kernel
theorem dX2_inAlarm_9 : decode cX2_inAlarm 9 = .ok (.getfield 21, 3) := by decide +kernel
theorem dX2_inAlarm_12 : decode cX2_inAlarm 12 = .ok (.getfield 50, 3) := by decide +kernel
theorem dX2_inAlarm_15 : decode cX2_inAlarm 15 = .ok (.iload_n 1, 1) := by decide +kernel
theorem dX2_inAlarm_16 : decode cX2_inAlarm 16 = .ok (.iaload, 1) := by decide +kernel
theorem dX2_inAlarm_17 : decode cX2_inAlarm 17 = .ok (.iconst (-1), 1) := by decide +kernel
theorem dX2_inAlarm_18 : decode cX2_inAlarm 18 = .ok (.if_icmp .eq 7, 3) := by decide +kernel
theorem dX2_inAlarm_21 : decode cX2_inAlarm 21 = .ok (.iconst 1, 1) := by decide +kernel
theorem dX2_inAlarm_22 : decode cX2_inAlarm 22 = .ok (.goto 4, 3) := by decide +kernel
theorem dX2_inAlarm_25 : decode cX2_inAlarm 25 = .ok (.iconst 0, 1) := by decide +kernel
theorem dX2_inAlarm_26 : decode cX2_inAlarm 26 = .ok (.ireturn, 1) := by decide +kernel
theorem dX2_canHold_0 : decode cX2_canHold 0 = .ok (.aload_n 0, 1) := by decide +kernel
theorem dX2_canHold_1 : decode cX2_canHold 1 = .ok (.iload_n 1, 1) := by decide +kernel
theorem dX2_canHold_2 : decode cX2_canHold 2 = .ok (.invokevirtual 42, 3) := by decide +kernel
theorem dX2_canHold_5 : decode cX2_canHold 5 = .ok (.ifCond .eq 33, 3) := by decide +kernel
theorem dX2_canHold_8 : decode cX2_canHold 8 = .ok (.aload_n 0, 1) := by decide +kernel
theorem dX2_canHold_9 : decode cX2_canHold 9 = .ok (.getfield 21, 3) := by decide +kernel
theorem dX2_canHold_12 : decode cX2_canHold 12 = .ok (.getfield 46, 3) := by decide +kernel
theorem dX2_canHold_15 : decode cX2_canHold 15 = .ok (.iload_n 1, 1) := by decide +kernel
theorem dX2_canHold_16 : decode cX2_canHold 16 = .ok (.iaload, 1) := by decide +kernel
theorem dX2_canHold_17 : decode cX2_canHold 17 = .ok (.iconst (-1), 1) := by decide +kernel
theorem dX2_canHold_18 : decode cX2_canHold 18 = .ok (.if_icmp .eq 20, 3) := by decide +kernel
theorem dX2_canHold_21 : decode cX2_canHold 21 = .ok (.aload_n 0, 1) := by decide +kernel
theorem dX2_canHold_22 : decode cX2_canHold 22 = .ok (.getfield 21, 3) := by decide +kernel
theorem dX2_canHold_25 : decode cX2_canHold 25 = .ok (.getfield 50, 3) := by decide +kernel
theorem dX2_canHold_28 : decode cX2_canHold 28 = .ok (.iload_n 1, 1) := by decide +kernel
theorem dX2_canHold_29 : decode cX2_canHold 29 = .ok (.iaload, 1) := by decide +kernel
theorem dX2_canHold_30 : decode cX2_canHold 30 = .ok (.iconst (-1), 1) := by decide +kernel
theorem dX2_canHold_31 : decode cX2_canHold 31 = .ok (.if_icmp .ne 7, 3) := by decide +kernel
theorem dX2_canHold_34 : decode cX2_canHold 34 = .ok (.iconst 1, 1) := by decide +kernel
theorem dX2_canHold_35 : decode cX2_canHold 35 = .ok (.goto 4, 3) := by decide +kernel
theorem dX2_canHold_38 : decode cX2_canHold 38 = .ok (.iconst 0, 1) := by decide +kernel
theorem dX2_canHold_39 : decode cX2_canHold 39 = .ok (.ireturn, 1) := by decide +kernel
theorem dX2_pluggedInAt_0 : decode cX2_pluggedInAt 0 = .ok (.iconst 0, 1) := by decide +kernel
theorem dX2_pluggedInAt_1 : decode cX2_pluggedInAt 1 = .ok (.istore_n 2, 1) := by decide +kernel
theorem dX2_pluggedInAt_2 : decode cX2_pluggedInAt 2 = .ok (.iload_n 2, 1) := by decide +kernel
theorem dX2_pluggedInAt_3 : decode cX2_pluggedInAt 3 = .ok (.aload_n 0, 1) := by decide +kernel
theorem dX2_pluggedInAt_4 : decode cX2_pluggedInAt 4 = .ok (.getfield 12, 3) := by decide +kernel
theorem dX2_pluggedInAt_7 : decode cX2_pluggedInAt 7 = .ok (.getfield 39, 3) := by decide +kernel
theorem dX2_pluggedInAt_10 : decode cX2_pluggedInAt 10 = .ok (.if_icmp .ge 24, 3) := by decide +kernel
theorem dX2_pluggedInAt_13 : decode cX2_pluggedInAt 13 = .ok (.aload_n 0, 1) := by decide +kernel
theorem dX2_pluggedInAt_14 : decode cX2_pluggedInAt 14 = .ok (.getfield 21, 3) := by decide +kernel
theorem dX2_pluggedInAt_17 : decode cX2_pluggedInAt 17 = .ok (.getfield 46, 3) := by decide +kernel
theorem dX2_pluggedInAt_20 : decode cX2_pluggedInAt 20 = .ok (.iload_n 2, 1) := by decide +kernel
theorem dX2_pluggedInAt_21 : decode cX2_pluggedInAt 21 = .ok (.iaload, 1) := by decide +kernel
theorem dX2_pluggedInAt_22 : decode cX2_pluggedInAt 22 = .ok (.iload_n 1, 1) := by decide +kernel
theorem dX2_pluggedInAt_23 : decode cX2_pluggedInAt 23 = .ok (.if_icmp .ne 5, 3) := by decide +kernel
theorem dX2_pluggedInAt_26 : decode cX2_pluggedInAt 26 = .ok (.iload_n 2, 1) := by decide +kernel
theorem dX2_pluggedInAt_27 : decode cX2_pluggedInAt 27 = .ok (.ireturn, 1) := by decide +kernel
theorem dX2_pluggedInAt_28 : decode cX2_pluggedInAt 28 = .ok (.iinc 2 1, 3) := by decide +kernel
theorem dX2_pluggedInAt_31 : decode cX2_pluggedInAt 31 = .ok (.goto (-29), 3) := by decide +kernel
theorem dX2_pluggedInAt_34 : decode cX2_pluggedInAt 34 = .ok (.iconst (-1), 1) := by decide +kernel
theorem dX2_pluggedInAt_35 : decode cX2_pluggedInAt 35 = .ok (.ireturn, 1) := by decide +kernel
theorem dX2_heldBits_0 : decode cX2_heldBits 0 = .ok (.iconst 0, 1) := by decide +kernel
theorem dX2_heldBits_1 : decode cX2_heldBits 1 = .ok (.istore_n 2, 1) := by decide +kernel
theorem dX2_heldBits_2 : decode cX2_heldBits 2 = .ok (.iconst 0, 1) := by decide +kernel
theorem dX2_heldBits_3 : decode cX2_heldBits 3 = .ok (.istore_n 3, 1) := by decide +kernel
theorem dX2_heldBits_4 : decode cX2_heldBits 4 = .ok (.iload_n 3, 1) := by decide +kernel
theorem dX2_heldBits_5 : decode cX2_heldBits 5 = .ok (.aload_n 0, 1) := by decide +kernel
theorem dX2_heldBits_6 : decode cX2_heldBits 6 = .ok (.getfield 12, 3) := by decide +kernel
theorem dX2_heldBits_9 : decode cX2_heldBits 9 = .ok (.getfield 53, 3) := by decide +kernel
theorem dX2_heldBits_12 : decode cX2_heldBits 12 = .ok (.if_icmp .ge 28, 3) := by decide +kernel
theorem dX2_heldBits_15 : decode cX2_heldBits 15 = .ok (.aload_n 0, 1) := by decide +kernel
theorem dX2_heldBits_16 : decode cX2_heldBits 16 = .ok (.getfield 21, 3) := by decide +kernel
theorem dX2_heldBits_19 : decode cX2_heldBits 19 = .ok (.getfield 56, 3) := by decide +kernel
theorem dX2_heldBits_22 : decode cX2_heldBits 22 = .ok (.iload_n 3, 1) := by decide +kernel
theorem dX2_heldBits_23 : decode cX2_heldBits 23 = .ok (.iaload, 1) := by decide +kernel
theorem dX2_heldBits_24 : decode cX2_heldBits 24 = .ok (.iload_n 1, 1) := by decide +kernel
theorem dX2_heldBits_25 : decode cX2_heldBits 25 = .ok (.if_icmp .ne 9, 3) := by decide +kernel
theorem dX2_heldBits_28 : decode cX2_heldBits 28 = .ok (.iload_n 2, 1) := by decide +kernel
theorem dX2_heldBits_29 : decode cX2_heldBits 29 = .ok (.iconst 1, 1) := by decide +kernel
theorem dX2_heldBits_30 : decode cX2_heldBits 30 = .ok (.iload_n 3, 1) := by decide +kernel
theorem dX2_heldBits_31 : decode cX2_heldBits 31 = .ok (.ishl, 1) := by decide +kernel
theorem dX2_heldBits_32 : decode cX2_heldBits 32 = .ok (.ior, 1) := by decide +kernel
theorem dX2_heldBits_33 : decode cX2_heldBits 33 = .ok (.istore_n 2, 1) := by decide +kernel
theorem dX2_heldBits_34 : decode cX2_heldBits 34 = .ok (.iinc 3 1, 3) := by decide +kernel
theorem dX2_heldBits_37 : decode cX2_heldBits 37 = .ok (.goto (-33), 3) := by decide +kernel
theorem dX2_heldBits_40 : decode cX2_heldBits 40 = .ok (.iload_n 2, 1) := by decide +kernel
theorem dX2_heldBits_41 : decode cX2_heldBits 41 = .ok (.ireturn, 1) := by decide +kernel
theorem dX2_reservedFor_0 : decode cX2_reservedFor 0 = .ok (.iconst 0, 1) := by decide +kernel
theorem dX2_reservedFor_1 : decode cX2_reservedFor 1 = .ok (.istore_n 2, 1) := by decide +kernel
theorem dX2_reservedFor_2 : decode cX2_reservedFor 2 = .ok (.iconst 0, 1) := by decide +kernel
theorem dX2_reservedFor_3 : decode cX2_reservedFor 3 = .ok (.istore_n 3, 1) := by decide +kernel
theorem dX2_reservedFor_4 : decode cX2_reservedFor 4 = .ok (.iload_n 3, 1) := by decide +kernel
theorem dX2_reservedFor_5 : decode cX2_reservedFor 5 = .ok (.aload_n 0, 1) := by decide +kernel
theorem dX2_reservedFor_6 : decode cX2_reservedFor 6 = .ok (.getfield 12, 3) := by decide +kernel
theorem dX2_reservedFor_9 : decode cX2_reservedFor 9 = .ok (.getfield 53, 3) := by decide +kernel
theorem dX2_reservedFor_12 : decode cX2_reservedFor 12 = .ok (.if_icmp .ge 34, 3) := by decide +kernel
theorem dX2_reservedFor_15 : decode cX2_reservedFor 15 = .ok (.aload_n 0, 1) := by decide +kernel
theorem dX2_reservedFor_16 : decode cX2_reservedFor 16 = .ok (.getfield 21, 3) := by decide +kernel
theorem dX2_reservedFor_19 : decode cX2_reservedFor 19 = .ok (.getfield 56, 3) := by decide +kernel
theorem dX2_reservedFor_22 : decode cX2_reservedFor 22 = .ok (.iload_n 3, 1) := by decide +kernel
theorem dX2_reservedFor_23 : decode cX2_reservedFor 23 = .ok (.iaload, 1) := by decide +kernel
theorem dX2_reservedFor_24 : decode cX2_reservedFor 24 = .ok (.iload_n 1, 1) := by decide +kernel
theorem dX2_reservedFor_25 : decode cX2_reservedFor 25 = .ok (.if_icmp .ne 15, 3) := by decide +kernel
theorem dX2_reservedFor_28 : decode cX2_reservedFor 28 = .ok (.iload_n 2, 1) := by decide +kernel
theorem dX2_reservedFor_29 : decode cX2_reservedFor 29 = .ok (.aload_n 0, 1) := by decide +kernel
theorem dX2_reservedFor_30 : decode cX2_reservedFor 30 = .ok (.getfield 12, 3) := by decide +kernel
theorem dX2_reservedFor_33 : decode cX2_reservedFor 33 = .ok (.getfield 59, 3) := by decide +kernel
theorem dX2_reservedFor_36 : decode cX2_reservedFor 36 = .ok (.iload_n 3, 1) := by decide +kernel
theorem dX2_reservedFor_37 : decode cX2_reservedFor 37 = .ok (.iaload, 1) := by decide +kernel
theorem dX2_reservedFor_38 : decode cX2_reservedFor 38 = .ok (.iadd, 1) := by decide +kernel
theorem dX2_reservedFor_39 : decode cX2_reservedFor 39 = .ok (.istore_n 2, 1) := by decide +kernel
theorem dX2_reservedFor_40 : decode cX2_reservedFor 40 = .ok (.iinc 3 1, 3) := by decide +kernel
theorem dX2_reservedFor_43 : decode cX2_reservedFor 43 = .ok (.goto (-39), 3) := by decide +kernel
theorem dX2_reservedFor_46 : decode cX2_reservedFor 46 = .ok (.iload_n 2, 1) := by decide +kernel
theorem dX2_reservedFor_47 : decode cX2_reservedFor 47 = .ok (.ireturn, 1) := by decide +kernel
theorem dX2_unitsAtStake_0 : decode cX2_unitsAtStake 0 = .ok (.iconst 0, 1) := by decide +kernel
theorem dX2_unitsAtStake_1 : decode cX2_unitsAtStake 1 = .ok (.istore_n 2, 1) := by decide +kernel
theorem dX2_unitsAtStake_2 : decode cX2_unitsAtStake 2 = .ok (.iconst 0, 1) := by decide +kernel
theorem dX2_unitsAtStake_3 : decode cX2_unitsAtStake 3 = .ok (.istore_n 3, 1) := by decide +kernel
theorem dX2_unitsAtStake_4 : decode cX2_unitsAtStake 4 = .ok (.iload_n 3, 1) := by decide +kernel
theorem dX2_unitsAtStake_5 : decode cX2_unitsAtStake 5 = .ok (.aload_n 0, 1) := by decide +kernel
theorem dX2_unitsAtStake_6 : decode cX2_unitsAtStake 6 = .ok (.getfield 12, 3) := by decide +kernel
theorem dX2_unitsAtStake_9 : decode cX2_unitsAtStake 9 = .ok (.getfield 53, 3) := by decide +kernel
theorem dX2_unitsAtStake_12 : decode cX2_unitsAtStake 12 = .ok (.if_icmp .ge 34, 3) := by decide +kernel
theorem dX2_unitsAtStake_15 : decode cX2_unitsAtStake 15 = .ok (.aload_n 0, 1) := by decide +kernel
theorem dX2_unitsAtStake_16 : decode cX2_unitsAtStake 16 = .ok (.getfield 21, 3) := by decide +kernel
theorem dX2_unitsAtStake_19 : decode cX2_unitsAtStake 19 = .ok (.getfield 56, 3) := by decide +kernel
theorem dX2_unitsAtStake_22 : decode cX2_unitsAtStake 22 = .ok (.iload_n 3, 1) := by decide +kernel
theorem dX2_unitsAtStake_23 : decode cX2_unitsAtStake 23 = .ok (.iaload, 1) := by decide +kernel
theorem dX2_unitsAtStake_24 : decode cX2_unitsAtStake 24 = .ok (.iload_n 1, 1) := by decide +kernel
theorem dX2_unitsAtStake_25 : decode cX2_unitsAtStake 25 = .ok (.if_icmp .ne 15, 3) := by decide +kernel
theorem dX2_unitsAtStake_28 : decode cX2_unitsAtStake 28 = .ok (.iload_n 2, 1) := by decide +kernel
theorem dX2_unitsAtStake_29 : decode cX2_unitsAtStake 29 = .ok (.aload_n 0, 1) := by decide +kernel
theorem dX2_unitsAtStake_30 : decode cX2_unitsAtStake 30 = .ok (.getfield 21, 3) := by decide +kernel
theorem dX2_unitsAtStake_33 : decode cX2_unitsAtStake 33 = .ok (.getfield 62, 3) := by decide +kernel
theorem dX2_unitsAtStake_36 : decode cX2_unitsAtStake 36 = .ok (.iload_n 3, 1) := by decide +kernel
theorem dX2_unitsAtStake_37 : decode cX2_unitsAtStake 37 = .ok (.iaload, 1) := by decide +kernel
theorem dX2_unitsAtStake_38 : decode cX2_unitsAtStake 38 = .ok (.iadd, 1) := by decide +kernel
theorem dX2_unitsAtStake_39 : decode cX2_unitsAtStake 39 = .ok (.istore_n 2, 1) := by decide +kernel
theorem dX2_unitsAtStake_40 : decode cX2_unitsAtStake 40 = .ok (.iinc 3 1, 3) := by decide +kernel
theorem dX2_unitsAtStake_43 : decode cX2_unitsAtStake 43 = .ok (.goto (-39), 3) := by decide +kernel
theorem dX2_unitsAtStake_46 : decode cX2_unitsAtStake 46 = .ok (.iload_n 2, 1) := by decide +kernel
theorem dX2_unitsAtStake_47 : decode cX2_unitsAtStake 47 = .ok (.ireturn, 1) := by decide +kernel
theorem dX2_clearingFrames_0 : decode cX2_clearingFrames 0 = .ok (.iconst 0, 1) := by decide +kernel
theorem dX2_clearingFrames_1 : decode cX2_clearingFrames 1 = .ok (.istore_n 2, 1) := by decide +kernel
theorem dX2_clearingFrames_2 : decode cX2_clearingFrames 2 = .ok (.iconst 0, 1) := by decide +kernel
theorem dX2_clearingFrames_3 : decode cX2_clearingFrames 3 = .ok (.istore_n 3, 1) := by decide +kernel
theorem dX2_clearingFrames_4 : decode cX2_clearingFrames 4 = .ok (.iload_n 3, 1) := by decide +kernel
theorem dX2_clearingFrames_5 : decode cX2_clearingFrames 5 = .ok (.aload_n 0, 1) := by decide +kernel
theorem dX2_clearingFrames_6 : decode cX2_clearingFrames 6 = .ok (.getfield 12, 3) := by decide +kernel
theorem dX2_clearingFrames_9 : decode cX2_clearingFrames 9 = .ok (.getfield 53, 3) := by decide +kernel
theorem dX2_clearingFrames_12 : decode cX2_clearingFrames 12 = .ok (.if_icmp .ge 44, 3) := by decide +kernel
theorem dX2_clearingFrames_15 : decode cX2_clearingFrames 15 = .ok (.aload_n 0, 1) := by decide +kernel
theorem dX2_clearingFrames_16 : decode cX2_clearingFrames 16 = .ok (.getfield 21, 3) := by decide +kernel
theorem dX2_clearingFrames_19 : decode cX2_clearingFrames 19 = .ok (.getfield 56, 3) := by decide +kernel
theorem dX2_clearingFrames_22 : decode cX2_clearingFrames 22 = .ok (.iload_n 3, 1) := by decide +kernel
theorem dX2_clearingFrames_23 : decode cX2_clearingFrames 23 = .ok (.iaload, 1) := by decide +kernel
theorem dX2_clearingFrames_24 : decode cX2_clearingFrames 24 = .ok (.iload_n 1, 1) := by decide +kernel
theorem dX2_clearingFrames_25 : decode cX2_clearingFrames 25 = .ok (.if_icmp .ne 25, 3) := by decide +kernel
theorem dX2_clearingFrames_28 : decode cX2_clearingFrames 28 = .ok (.aload_n 0, 1) := by decide +kernel
theorem dX2_clearingFrames_29 : decode cX2_clearingFrames 29 = .ok (.getfield 21, 3) := by decide +kernel
theorem dX2_clearingFrames_32 : decode cX2_clearingFrames 32 = .ok (.getfield 62, 3) := by decide +kernel
theorem dX2_clearingFrames_35 : decode cX2_clearingFrames 35 = .ok (.iload_n 3, 1) := by decide +kernel
theorem dX2_clearingFrames_36 : decode cX2_clearingFrames 36 = .ok (.iaload, 1) := by decide +kernel
theorem dX2_clearingFrames_37 : decode cX2_clearingFrames 37 = .ok (.ifCond .le 13, 3) := by decide +kernel
theorem dX2_clearingFrames_40 : decode cX2_clearingFrames 40 = .ok (.iload_n 2, 1) := by decide +kernel
theorem dX2_clearingFrames_41 : decode cX2_clearingFrames 41 = .ok (.aload_n 0, 1) := by decide +kernel
theorem dX2_clearingFrames_42 : decode cX2_clearingFrames 42 = .ok (.iload_n 3, 1) := by decide +kernel
theorem dX2_clearingFrames_43 : decode cX2_clearingFrames 43 = .ok (.invokevirtual 65, 3) := by decide +kernel
theorem dX2_clearingFrames_46 : decode cX2_clearingFrames 46 = .ok (.invokestatic 69, 3) := by decide +kernel
theorem dX2_clearingFrames_49 : decode cX2_clearingFrames 49 = .ok (.istore_n 2, 1) := by decide +kernel
theorem dX2_clearingFrames_50 : decode cX2_clearingFrames 50 = .ok (.iinc 3 1, 3) := by decide +kernel
theorem dX2_clearingFrames_53 : decode cX2_clearingFrames 53 = .ok (.goto (-49), 3) := by decide +kernel
theorem dX2_clearingFrames_56 : decode cX2_clearingFrames 56 = .ok (.iload_n 2, 1) := by decide +kernel
theorem dX2_clearingFrames_57 : decode cX2_clearingFrames 57 = .ok (.ireturn, 1) := by decide +kernel
theorem dX2_framesToPacketEnd_0 : decode cX2_framesToPacketEnd 0 = .ok (.aload_n 0, 1) := by decide +kernel
theorem dX2_framesToPacketEnd_1 : decode cX2_framesToPacketEnd 1 = .ok (.getfield 12, 3) := by decide +kernel
theorem dX2_framesToPacketEnd_4 : decode cX2_framesToPacketEnd 4 = .ok (.getfield 59, 3) := by decide +kernel
theorem dX2_framesToPacketEnd_7 : decode cX2_framesToPacketEnd 7 = .ok (.iload_n 1, 1) := by decide +kernel
theorem dX2_framesToPacketEnd_8 : decode cX2_framesToPacketEnd 8 = .ok (.iaload, 1) := by decide +kernel
theorem dX2_framesToPacketEnd_9 : decode cX2_framesToPacketEnd 9 = .ok (.istore_n 2, 1) := by decide +kernel
theorem dX2_framesToPacketEnd_10 : decode cX2_framesToPacketEnd 10 = .ok (.aload_n 0, 1) := by decide +kernel
theorem dX2_framesToPacketEnd_11 : decode cX2_framesToPacketEnd 11 = .ok (.getfield 12, 3) := by decide +kernel
theorem dX2_framesToPacketEnd_14 : decode cX2_framesToPacketEnd 14 = .ok (.getfield 75, 3) := by decide +kernel
theorem dX2_framesToPacketEnd_17 : decode cX2_framesToPacketEnd 17 = .ok (.iload_n 1, 1) := by decide +kernel
theorem dX2_framesToPacketEnd_18 : decode cX2_framesToPacketEnd 18 = .ok (.iaload, 1) := by decide +kernel
theorem dX2_framesToPacketEnd_19 : decode cX2_framesToPacketEnd 19 = .ok (.aload_n 0, 1) := by decide +kernel
theorem dX2_framesToPacketEnd_20 : decode cX2_framesToPacketEnd 20 = .ok (.getfield 21, 3) := by decide +kernel
theorem dX2_framesToPacketEnd_23 : decode cX2_framesToPacketEnd 23 = .ok (.getfield 62, 3) := by decide +kernel
theorem dX2_framesToPacketEnd_26 : decode cX2_framesToPacketEnd 26 = .ok (.iload_n 1, 1) := by decide +kernel
theorem dX2_framesToPacketEnd_27 : decode cX2_framesToPacketEnd 27 = .ok (.iaload, 1) := by decide +kernel
theorem dX2_framesToPacketEnd_28 : decode cX2_framesToPacketEnd 28 = .ok (.isub, 1) := by decide +kernel
theorem dX2_framesToPacketEnd_29 : decode cX2_framesToPacketEnd 29 = .ok (.istore_n 3, 1) := by decide +kernel
theorem dX2_framesToPacketEnd_30 : decode cX2_framesToPacketEnd 30 = .ok (.iload_n 2, 1) := by decide +kernel
theorem dX2_framesToPacketEnd_31 : decode cX2_framesToPacketEnd 31 = .ok (.ifCond .le 13, 3) := by decide +kernel
theorem dX2_framesToPacketEnd_34 : decode cX2_framesToPacketEnd 34 = .ok (.iload_n 3, 1) := by decide +kernel
theorem dX2_framesToPacketEnd_35 : decode cX2_framesToPacketEnd 35 = .ok (.iload_n 2, 1) := by decide +kernel
theorem dX2_framesToPacketEnd_36 : decode cX2_framesToPacketEnd 36 = .ok (.iadd, 1) := by decide +kernel
theorem dX2_framesToPacketEnd_37 : decode cX2_framesToPacketEnd 37 = .ok (.iconst 1, 1) := by decide +kernel
theorem dX2_framesToPacketEnd_38 : decode cX2_framesToPacketEnd 38 = .ok (.isub, 1) := by decide +kernel
theorem dX2_framesToPacketEnd_39 : decode cX2_framesToPacketEnd 39 = .ok (.iload_n 2, 1) := by decide +kernel
theorem dX2_framesToPacketEnd_40 : decode cX2_framesToPacketEnd 40 = .ok (.idiv, 1) := by decide +kernel
theorem dX2_framesToPacketEnd_41 : decode cX2_framesToPacketEnd 41 = .ok (.goto 4, 3) := by decide +kernel
theorem dX2_framesToPacketEnd_44 : decode cX2_framesToPacketEnd 44 = .ok (.iconst 0, 1) := by decide +kernel
theorem dX2_framesToPacketEnd_45 : decode cX2_framesToPacketEnd 45 = .ok (.ireturn, 1) := by decide +kernel
theorem dX2_weakestDevice_0 : decode cX2_weakestDevice 0 = .ok (.iconst (-1), 1) := by decide +kernel
theorem dX2_weakestDevice_1 : decode cX2_weakestDevice 1 = .ok (.istore_n 1, 1) := by decide +kernel
theorem dX2_weakestDevice_2 : decode cX2_weakestDevice 2 = .ok (.iconst (-1), 1) := by decide +kernel
theorem dX2_weakestDevice_3 : decode cX2_weakestDevice 3 = .ok (.istore_n 2, 1) := by decide +kernel
theorem dX2_weakestDevice_4 : decode cX2_weakestDevice 4 = .ok (.iconst 0, 1) := by decide +kernel
theorem dX2_weakestDevice_5 : decode cX2_weakestDevice 5 = .ok (.istore_n 3, 1) := by decide +kernel
theorem dX2_weakestDevice_6 : decode cX2_weakestDevice 6 = .ok (.iload_n 3, 1) := by decide +kernel
theorem dX2_weakestDevice_7 : decode cX2_weakestDevice 7 = .ok (.aload_n 0, 1) := by decide +kernel
theorem dX2_weakestDevice_8 : decode cX2_weakestDevice 8 = .ok (.getfield 12, 3) := by decide +kernel
theorem dX2_weakestDevice_11 : decode cX2_weakestDevice 11 = .ok (.getfield 39, 3) := by decide +kernel
theorem dX2_weakestDevice_14 : decode cX2_weakestDevice 14 = .ok (.if_icmp .ge 36, 3) := by decide +kernel
theorem dX2_weakestDevice_17 : decode cX2_weakestDevice 17 = .ok (.aload_n 0, 1) := by decide +kernel
theorem dX2_weakestDevice_18 : decode cX2_weakestDevice 18 = .ok (.iload_n 3, 1) := by decide +kernel
theorem dX2_weakestDevice_19 : decode cX2_weakestDevice 19 = .ok (.invokevirtual 78, 3) := by decide +kernel
theorem dX2_weakestDevice_22 : decode cX2_weakestDevice 22 = .ok (.ifCond .eq 22, 3) := by decide +kernel
theorem dX2_weakestDevice_25 : decode cX2_weakestDevice 25 = .ok (.aload_n 0, 1) := by decide +kernel
theorem dX2_weakestDevice_26 : decode cX2_weakestDevice 26 = .ok (.iload_n 3, 1) := by decide +kernel
theorem dX2_weakestDevice_27 : decode cX2_weakestDevice 27 = .ok (.iconst (-1), 1) := by decide +kernel
theorem dX2_weakestDevice_28 : decode cX2_weakestDevice 28 = .ok (.invokevirtual 81, 3) := by decide +kernel
theorem dX2_weakestDevice_31 : decode cX2_weakestDevice 31 = .ok (.iload_n 2, 1) := by decide +kernel
theorem dX2_weakestDevice_32 : decode cX2_weakestDevice 32 = .ok (.if_icmp .le 12, 3) := by decide +kernel
theorem dX2_weakestDevice_35 : decode cX2_weakestDevice 35 = .ok (.iload_n 3, 1) := by decide +kernel
theorem dX2_weakestDevice_36 : decode cX2_weakestDevice 36 = .ok (.istore_n 1, 1) := by decide +kernel
theorem dX2_weakestDevice_37 : decode cX2_weakestDevice 37 = .ok (.aload_n 0, 1) := by decide +kernel
theorem dX2_weakestDevice_38 : decode cX2_weakestDevice 38 = .ok (.iload_n 3, 1) := by decide +kernel
theorem dX2_weakestDevice_39 : decode cX2_weakestDevice 39 = .ok (.iconst (-1), 1) := by decide +kernel
theorem dX2_weakestDevice_40 : decode cX2_weakestDevice 40 = .ok (.invokevirtual 81, 3) := by decide +kernel
theorem dX2_weakestDevice_43 : decode cX2_weakestDevice 43 = .ok (.istore_n 2, 1) := by decide +kernel
theorem dX2_weakestDevice_44 : decode cX2_weakestDevice 44 = .ok (.iinc 3 1, 3) := by decide +kernel
theorem dX2_weakestDevice_47 : decode cX2_weakestDevice 47 = .ok (.goto (-41), 3) := by decide +kernel
theorem dX2_weakestDevice_50 : decode cX2_weakestDevice 50 = .ok (.iload_n 1, 1) := by decide +kernel
theorem dX2_weakestDevice_51 : decode cX2_weakestDevice 51 = .ok (.ireturn, 1) := by decide +kernel
theorem dX2_scoreOf_0 : decode cX2_scoreOf 0 = .ok (.aload_n 0, 1) := by decide +kernel
theorem dX2_scoreOf_1 : decode cX2_scoreOf 1 = .ok (.iload_n 1, 1) := by decide +kernel
theorem dX2_scoreOf_2 : decode cX2_scoreOf 2 = .ok (.iload_n 2, 1) := by decide +kernel
theorem dX2_scoreOf_3 : decode cX2_scoreOf 3 = .ok (.invokevirtual 84, 3) := by decide +kernel
theorem dX2_scoreOf_6 : decode cX2_scoreOf 6 = .ok (.istore_n 3, 1) := by decide +kernel
theorem dX2_scoreOf_7 : decode cX2_scoreOf 7 = .ok (.iconst 0, 1) := by decide +kernel
theorem dX2_scoreOf_8 : decode cX2_scoreOf 8 = .ok (.istore 4, 2) := by decide +kernel
theorem dX2_scoreOf_10 : decode cX2_scoreOf 10 = .ok (.iconst 0, 1) := by decide +kernel
theorem dX2_scoreOf_11 : decode cX2_scoreOf 11 = .ok (.istore 5, 2) := by decide +kernel
theorem dX2_scoreOf_13 : decode cX2_scoreOf 13 = .ok (.iload 5, 2) := by decide +kernel
theorem dX2_scoreOf_15 : decode cX2_scoreOf 15 = .ok (.aload_n 0, 1) := by decide +kernel
theorem dX2_scoreOf_16 : decode cX2_scoreOf 16 = .ok (.getfield 12, 3) := by decide +kernel
theorem dX2_scoreOf_19 : decode cX2_scoreOf 19 = .ok (.getfield 87, 3) := by decide +kernel
theorem dX2_scoreOf_22 : decode cX2_scoreOf 22 = .ok (.if_icmp .ge 34, 3) := by decide +kernel
theorem dX2_scoreOf_25 : decode cX2_scoreOf 25 = .ok (.iload_n 3, 1) := by decide +kernel
theorem dX2_scoreOf_26 : decode cX2_scoreOf 26 = .ok (.iload 5, 2) := by decide +kernel
theorem dX2_scoreOf_28 : decode cX2_scoreOf 28 = .ok (.ishr, 1) := by decide +kernel
theorem dX2_scoreOf_29 : decode cX2_scoreOf 29 = .ok (.iconst 1, 1) := by decide +kernel
theorem dX2_scoreOf_30 : decode cX2_scoreOf 30 = .ok (.iand, 1) := by decide +kernel
theorem dX2_scoreOf_31 : decode cX2_scoreOf 31 = .ok (.iconst 1, 1) := by decide +kernel
theorem dX2_scoreOf_32 : decode cX2_scoreOf 32 = .ok (.if_icmp .ne 18, 3) := by decide +kernel
theorem dX2_scoreOf_35 : decode cX2_scoreOf 35 = .ok (.iload 4, 2) := by decide +kernel
theorem dX2_scoreOf_37 : decode cX2_scoreOf 37 = .ok (.aload_n 0, 1) := by decide +kernel
theorem dX2_scoreOf_38 : decode cX2_scoreOf 38 = .ok (.getfield 12, 3) := by decide +kernel
theorem dX2_scoreOf_41 : decode cX2_scoreOf 41 = .ok (.getfield 90, 3) := by decide +kernel
theorem dX2_scoreOf_44 : decode cX2_scoreOf 44 = .ok (.iload 5, 2) := by decide +kernel
theorem dX2_scoreOf_46 : decode cX2_scoreOf 46 = .ok (.iaload, 1) := by decide +kernel
theorem dX2_scoreOf_47 : decode cX2_scoreOf 47 = .ok (.iadd, 1) := by decide +kernel
theorem dX2_scoreOf_48 : decode cX2_scoreOf 48 = .ok (.istore 4, 2) := by decide +kernel
theorem dX2_scoreOf_50 : decode cX2_scoreOf 50 = .ok (.iinc 5 1, 3) := by decide +kernel
theorem dX2_scoreOf_53 : decode cX2_scoreOf 53 = .ok (.goto (-40), 3) := by decide +kernel
theorem dX2_scoreOf_56 : decode cX2_scoreOf 56 = .ok (.iload 4, 2) := by decide +kernel
theorem dX2_scoreOf_58 : decode cX2_scoreOf 58 = .ok (.ireturn, 1) := by decide +kernel
theorem dX2_matchingBits_0 : decode cX2_matchingBits 0 = .ok (.iconst 0, 1) := by decide +kernel
theorem dX2_matchingBits_1 : decode cX2_matchingBits 1 = .ok (.istore_n 3, 1) := by decide +kernel
theorem dX2_matchingBits_2 : decode cX2_matchingBits 2 = .ok (.iconst 0, 1) := by decide +kernel
theorem dX2_matchingBits_3 : decode cX2_matchingBits 3 = .ok (.istore 4, 2) := by decide +kernel
theorem dX2_matchingBits_5 : decode cX2_matchingBits 5 = .ok (.iload 4, 2) := by decide +kernel
theorem dX2_matchingBits_7 : decode cX2_matchingBits 7 = .ok (.aload_n 0, 1) := by decide +kernel
theorem dX2_matchingBits_8 : decode cX2_matchingBits 8 = .ok (.getfield 12, 3) := by decide +kernel
theorem dX2_matchingBits_11 : decode cX2_matchingBits 11 = .ok (.getfield 87, 3) := by decide +kernel
theorem dX2_matchingBits_14 : decode cX2_matchingBits 14 = .ok (.if_icmp .ge 27, 3) := by decide +kernel
theorem dX2_matchingBits_17 : decode cX2_matchingBits 17 = .ok (.aload_n 0, 1) := by decide +kernel
theorem dX2_matchingBits_18 : decode cX2_matchingBits 18 = .ok (.iload 4, 2) := by decide +kernel
theorem dX2_matchingBits_20 : decode cX2_matchingBits 20 = .ok (.iload_n 1, 1) := by decide +kernel
theorem dX2_matchingBits_21 : decode cX2_matchingBits 21 = .ok (.iload_n 2, 1) := by decide +kernel
theorem dX2_matchingBits_22 : decode cX2_matchingBits 22 = .ok (.invokevirtual 93, 3) := by decide +kernel
theorem dX2_matchingBits_25 : decode cX2_matchingBits 25 = .ok (.ifCond .eq 10, 3) := by decide +kernel
theorem dX2_matchingBits_28 : decode cX2_matchingBits 28 = .ok (.iload_n 3, 1) := by decide +kernel
theorem dX2_matchingBits_29 : decode cX2_matchingBits 29 = .ok (.iconst 1, 1) := by decide +kernel
theorem dX2_matchingBits_30 : decode cX2_matchingBits 30 = .ok (.iload 4, 2) := by decide +kernel
theorem dX2_matchingBits_32 : decode cX2_matchingBits 32 = .ok (.ishl, 1) := by decide +kernel
theorem dX2_matchingBits_33 : decode cX2_matchingBits 33 = .ok (.ior, 1) := by decide +kernel
theorem dX2_matchingBits_34 : decode cX2_matchingBits 34 = .ok (.istore_n 3, 1) := by decide +kernel
theorem dX2_matchingBits_35 : decode cX2_matchingBits 35 = .ok (.iinc 4 1, 3) := by decide +kernel
theorem dX2_matchingBits_38 : decode cX2_matchingBits 38 = .ok (.goto (-33), 3) := by decide +kernel
theorem dX2_matchingBits_41 : decode cX2_matchingBits 41 = .ok (.iload_n 3, 1) := by decide +kernel
theorem dX2_matchingBits_42 : decode cX2_matchingBits 42 = .ok (.ireturn, 1) := by decide +kernel
theorem dX2_matches_0 : decode cX2_matches 0 = .ok (.aload_n 0, 1) := by decide +kernel
theorem dX2_matches_1 : decode cX2_matches 1 = .ok (.iload_n 2, 1) := by decide +kernel
theorem dX2_matches_2 : decode cX2_matches 2 = .ok (.invokevirtual 42, 3) := by decide +kernel
theorem dX2_matches_5 : decode cX2_matches 5 = .ok (.ifCond .ne 5, 3) := by decide +kernel
theorem dX2_matches_8 : decode cX2_matches 8 = .ok (.iconst 0, 1) := by decide +kernel
theorem dX2_matches_9 : decode cX2_matches 9 = .ok (.ireturn, 1) := by decide +kernel
theorem dX2_matches_10 : decode cX2_matches 10 = .ok (.aload_n 0, 1) := by decide +kernel
theorem dX2_matches_11 : decode cX2_matches 11 = .ok (.getfield 21, 3) := by decide +kernel
theorem dX2_matches_14 : decode cX2_matches 14 = .ok (.getfield 97, 3) := by decide +kernel
theorem dX2_matches_17 : decode cX2_matches 17 = .ok (.aload_n 0, 1) := by decide +kernel
theorem dX2_matches_18 : decode cX2_matches 18 = .ok (.getfield 12, 3) := by decide +kernel
theorem dX2_matches_21 : decode cX2_matches 21 = .ok (.getfield 100, 3) := by decide +kernel
theorem dX2_matches_24 : decode cX2_matches 24 = .ok (.iload_n 1, 1) := by decide +kernel
theorem dX2_matches_25 : decode cX2_matches 25 = .ok (.iaload, 1) := by decide +kernel
theorem dX2_matches_26 : decode cX2_matches 26 = .ok (.isub, 1) := by decide +kernel
theorem dX2_matches_27 : decode cX2_matches 27 = .ok (.istore 4, 2) := by decide +kernel
theorem dX2_matches_29 : decode cX2_matches 29 = .ok (.iload_n 3, 1) := by decide +kernel
theorem dX2_matches_30 : decode cX2_matches 30 = .ok (.iconst (-1), 1) := by decide +kernel
theorem dX2_matches_31 : decode cX2_matches 31 = .ok (.if_icmp .ne 18, 3) := by decide +kernel
theorem dX2_matches_34 : decode cX2_matches 34 = .ok (.aload_n 0, 1) := by decide +kernel
theorem dX2_matches_35 : decode cX2_matches 35 = .ok (.getfield 21, 3) := by decide +kernel
theorem dX2_matches_38 : decode cX2_matches 38 = .ok (.getfield 103, 3) := by decide +kernel
theorem dX2_matches_41 : decode cX2_matches 41 = .ok (.getfield 107, 3) := by decide +kernel
theorem dX2_matches_44 : decode cX2_matches 44 = .ok (.iload_n 2, 1) := by decide +kernel
theorem dX2_matches_45 : decode cX2_matches 45 = .ok (.iaload, 1) := by decide +kernel
theorem dX2_matches_46 : decode cX2_matches 46 = .ok (.goto 14, 3) := by decide +kernel
theorem dX2_matches_49 : decode cX2_matches 49 = .ok (.aload_n 0, 1) := by decide +kernel
theorem dX2_matches_50 : decode cX2_matches 50 = .ok (.getfield 21, 3) := by decide +kernel
theorem dX2_matches_53 : decode cX2_matches 53 = .ok (.getfield 103, 3) := by decide +kernel
theorem dX2_matches_56 : decode cX2_matches 56 = .ok (.iload_n 2, 1) := by decide +kernel
theorem dX2_matches_57 : decode cX2_matches 57 = .ok (.invokevirtual 112, 3) := by decide +kernel
theorem dX2_matches_60 : decode cX2_matches 60 = .ok (.istore 5, 2) := by decide +kernel
theorem dX2_matches_62 : decode cX2_matches 62 = .ok (.iconst 0, 1) := by decide +kernel
theorem dX2_matches_63 : decode cX2_matches 63 = .ok (.istore 6, 2) := by decide +kernel
theorem dX2_matches_65 : decode cX2_matches 65 = .ok (.iload 5, 2) := by decide +kernel
theorem dX2_matches_67 : decode cX2_matches 67 = .ok (.iconst 1, 1) := by decide +kernel
theorem dX2_matches_68 : decode cX2_matches 68 = .ok (.isub, 1) := by decide +kernel
theorem dX2_matches_69 : decode cX2_matches 69 = .ok (.istore 7, 2) := by decide +kernel
theorem dX2_matches_71 : decode cX2_matches 71 = .ok (.iload 7, 2) := by decide +kernel
theorem dX2_matches_73 : decode cX2_matches 73 = .ok (.ifCond .lt 65, 3) := by decide +kernel
theorem dX2_matches_76 : decode cX2_matches 76 = .ok (.aload_n 0, 1) := by decide +kernel
theorem dX2_matches_77 : decode cX2_matches 77 = .ok (.getfield 21, 3) := by decide +kernel
theorem dX2_matches_80 : decode cX2_matches 80 = .ok (.getfield 103, 3) := by decide +kernel
theorem dX2_matches_83 : decode cX2_matches 83 = .ok (.iload_n 2, 1) := by decide +kernel
theorem dX2_matches_84 : decode cX2_matches 84 = .ok (.iload 7, 2) := by decide +kernel
theorem dX2_matches_86 : decode cX2_matches 86 = .ok (.invokevirtual 115, 3) := by decide +kernel
theorem dX2_matches_89 : decode cX2_matches 89 = .ok (.iload 4, 2) := by decide +kernel
theorem dX2_matches_91 : decode cX2_matches 91 = .ok (.if_icmp .le 7, 3) := by decide +kernel
theorem dX2_matches_94 : decode cX2_matches 94 = .ok (.iconst 1, 1) := by decide +kernel
theorem dX2_matches_95 : decode cX2_matches 95 = .ok (.goto 4, 3) := by decide +kernel
theorem dX2_matches_98 : decode cX2_matches 98 = .ok (.iconst 0, 1) := by decide +kernel
theorem dX2_matches_99 : decode cX2_matches 99 = .ok (.istore 8, 2) := by decide +kernel
theorem dX2_matches_101 : decode cX2_matches 101 = .ok (.iload 8, 2) := by decide +kernel
theorem dX2_matches_103 : decode cX2_matches 103 = .ok (.ifCond .eq 29, 3) := by decide +kernel
theorem dX2_matches_106 : decode cX2_matches 106 = .ok (.aload_n 0, 1) := by decide +kernel
theorem dX2_matches_107 : decode cX2_matches 107 = .ok (.iload_n 1, 1) := by decide +kernel
theorem dX2_matches_108 : decode cX2_matches 108 = .ok (.iload 6, 2) := by decide +kernel
theorem dX2_matches_110 : decode cX2_matches 110 = .ok (.aload_n 0, 1) := by decide +kernel
theorem dX2_matches_111 : decode cX2_matches 111 = .ok (.getfield 21, 3) := by decide +kernel
theorem dX2_matches_114 : decode cX2_matches 114 = .ok (.getfield 103, 3) := by decide +kernel
theorem dX2_matches_117 : decode cX2_matches 117 = .ok (.iload_n 2, 1) := by decide +kernel
theorem dX2_matches_118 : decode cX2_matches 118 = .ok (.iload 7, 2) := by decide +kernel
theorem dX2_matches_120 : decode cX2_matches 120 = .ok (.invokevirtual 118, 3) := by decide +kernel
theorem dX2_matches_123 : decode cX2_matches 123 = .ok (.invokevirtual 121, 3) := by decide +kernel
theorem dX2_matches_126 : decode cX2_matches 126 = .ok (.ifCond .eq 6, 3) := by decide +kernel
theorem dX2_matches_129 : decode cX2_matches 129 = .ok (.iinc 6 1, 3) := by decide +kernel
theorem dX2_matches_132 : decode cX2_matches 132 = .ok (.iinc 7 (-1), 3) := by decide +kernel
theorem dX2_matches_135 : decode cX2_matches 135 = .ok (.goto (-64), 3) := by decide +kernel
theorem dX2_matches_138 : decode cX2_matches 138 = .ok (.iload_n 3, 1) := by decide +kernel
theorem dX2_matches_139 : decode cX2_matches 139 = .ok (.iconst (-1), 1) := by decide +kernel
theorem dX2_matches_140 : decode cX2_matches 140 = .ok (.if_icmp .eq 17, 3) := by decide +kernel
theorem dX2_matches_143 : decode cX2_matches 143 = .ok (.aload_n 0, 1) := by decide +kernel
theorem dX2_matches_144 : decode cX2_matches 144 = .ok (.iload_n 1, 1) := by decide +kernel
theorem dX2_matches_145 : decode cX2_matches 145 = .ok (.iload 6, 2) := by decide +kernel
theorem dX2_matches_147 : decode cX2_matches 147 = .ok (.iload_n 3, 1) := by decide +kernel
theorem dX2_matches_148 : decode cX2_matches 148 = .ok (.invokevirtual 121, 3) := by decide +kernel
theorem dX2_matches_151 : decode cX2_matches 151 = .ok (.ifCond .eq 6, 3) := by decide +kernel
theorem dX2_matches_154 : decode cX2_matches 154 = .ok (.iinc 6 1, 3) := by decide +kernel
theorem dX2_matches_157 : decode cX2_matches 157 = .ok (.iload 6, 2) := by decide +kernel
theorem dX2_matches_159 : decode cX2_matches 159 = .ok (.aload_n 0, 1) := by decide +kernel
theorem dX2_matches_160 : decode cX2_matches 160 = .ok (.getfield 12, 3) := by decide +kernel
theorem dX2_matches_163 : decode cX2_matches 163 = .ok (.getfield 124, 3) := by decide +kernel
theorem dX2_matches_166 : decode cX2_matches 166 = .ok (.iload_n 1, 1) := by decide +kernel
theorem dX2_matches_167 : decode cX2_matches 167 = .ok (.iaload, 1) := by decide +kernel
theorem dX2_matches_168 : decode cX2_matches 168 = .ok (.if_icmp .ne 7, 3) := by decide +kernel
theorem dX2_matches_171 : decode cX2_matches 171 = .ok (.iconst 1, 1) := by decide +kernel
theorem dX2_matches_172 : decode cX2_matches 172 = .ok (.goto 4, 3) := by decide +kernel
theorem dX2_matches_175 : decode cX2_matches 175 = .ok (.iconst 0, 1) := by decide +kernel
theorem dX2_matches_176 : decode cX2_matches 176 = .ok (.ireturn, 1) := by decide +kernel
theorem dX2_isNextOf_0 : decode cX2_isNextOf 0 = .ok (.iload_n 2, 1) := by decide +kernel
theorem dX2_isNextOf_1 : decode cX2_isNextOf 1 = .ok (.aload_n 0, 1) := by decide +kernel
theorem dX2_isNextOf_2 : decode cX2_isNextOf 2 = .ok (.getfield 12, 3) := by decide +kernel
theorem dX2_isNextOf_5 : decode cX2_isNextOf 5 = .ok (.getfield 124, 3) := by decide +kernel
theorem dX2_isNextOf_8 : decode cX2_isNextOf 8 = .ok (.iload_n 1, 1) := by decide +kernel
theorem dX2_isNextOf_9 : decode cX2_isNextOf 9 = .ok (.iaload, 1) := by decide +kernel
theorem dX2_isNextOf_10 : decode cX2_isNextOf 10 = .ok (.if_icmp .ge 29, 3) := by decide +kernel
theorem dX2_isNextOf_13 : decode cX2_isNextOf 13 = .ok (.iload_n 2, 1) := by decide +kernel
theorem dX2_isNextOf_14 : decode cX2_isNextOf 14 = .ok (.iconst 5, 1) := by decide +kernel
theorem dX2_isNextOf_15 : decode cX2_isNextOf 15 = .ok (.if_icmp .ge 24, 3) := by decide +kernel
theorem dX2_isNextOf_18 : decode cX2_isNextOf 18 = .ok (.aload_n 0, 1) := by decide +kernel
theorem dX2_isNextOf_19 : decode cX2_isNextOf 19 = .ok (.getfield 12, 3) := by decide +kernel
theorem dX2_isNextOf_22 : decode cX2_isNextOf 22 = .ok (.getfield 127, 3) := by decide +kernel
theorem dX2_isNextOf_25 : decode cX2_isNextOf 25 = .ok (.iload_n 1, 1) := by decide +kernel
theorem dX2_isNextOf_26 : decode cX2_isNextOf 26 = .ok (.iconst 5, 1) := by decide +kernel
theorem dX2_isNextOf_27 : decode cX2_isNextOf 27 = .ok (.imul, 1) := by decide +kernel
theorem dX2_isNextOf_28 : decode cX2_isNextOf 28 = .ok (.iload_n 2, 1) := by decide +kernel
theorem dX2_isNextOf_29 : decode cX2_isNextOf 29 = .ok (.iadd, 1) := by decide +kernel
theorem dX2_isNextOf_30 : decode cX2_isNextOf 30 = .ok (.iaload, 1) := by decide +kernel
theorem dX2_isNextOf_31 : decode cX2_isNextOf 31 = .ok (.iload_n 3, 1) := by decide +kernel
theorem dX2_isNextOf_32 : decode cX2_isNextOf 32 = .ok (.if_icmp .ne 7, 3) := by decide +kernel
theorem dX2_isNextOf_35 : decode cX2_isNextOf 35 = .ok (.iconst 1, 1) := by decide +kernel
theorem dX2_isNextOf_36 : decode cX2_isNextOf 36 = .ok (.goto 4, 3) := by decide +kernel
theorem dX2_isNextOf_39 : decode cX2_isNextOf 39 = .ok (.iconst 0, 1) := by decide +kernel
theorem dX2_isNextOf_40 : decode cX2_isNextOf 40 = .ok (.ireturn, 1) := by decide +kernel
theorem dX2_takeError_0 : decode cX2_takeError 0 = .ok (.aload_n 0, 1) := by decide +kernel
theorem dX2_takeError_1 : decode cX2_takeError 1 = .ok (.getfield 21, 3) := by decide +kernel
theorem dX2_takeError_4 : decode cX2_takeError 4 = .ok (.getfield 103, 3) := by decide +kernel
theorem dX2_takeError_7 : decode cX2_takeError 7 = .ok (.iload_n 1, 1) := by decide +kernel
theorem dX2_takeError_8 : decode cX2_takeError 8 = .ok (.iload_n 2, 1) := by decide +kernel
theorem dX2_takeError_9 : decode cX2_takeError 9 = .ok (.aload_n 0, 1) := by decide +kernel
theorem dX2_takeError_10 : decode cX2_takeError 10 = .ok (.getfield 21, 3) := by decide +kernel
theorem dX2_takeError_13 : decode cX2_takeError 13 = .ok (.getfield 97, 3) := by decide +kernel
theorem dX2_takeError_16 : decode cX2_takeError 16 = .ok (.invokevirtual 133, 3) := by decide +kernel
theorem dX2_takeError_19 : decode cX2_takeError 19 = .ok (.aload_n 0, 1) := by decide +kernel
theorem dX2_takeError_20 : decode cX2_takeError 20 = .ok (.getfield 21, 3) := by decide +kernel
theorem dX2_takeError_23 : decode cX2_takeError 23 = .ok (.getfield 137, 3) := by decide +kernel
theorem dX2_takeError_26 : decode cX2_takeError 26 = .ok (.getfield 141, 3) := by decide +kernel
theorem dX2_takeError_29 : decode cX2_takeError 29 = .ok (.bipush 9, 2) := by decide +kernel
theorem dX2_takeError_31 : decode cX2_takeError 31 = .ok (.dup2, 1) := by decide +kernel
theorem dX2_takeError_32 : decode cX2_takeError 32 = .ok (.iaload, 1) := by decide +kernel
theorem dX2_takeError_33 : decode cX2_takeError 33 = .ok (.iconst 1, 1) := by decide +kernel
theorem dX2_takeError_34 : decode cX2_takeError 34 = .ok (.iadd, 1) := by decide +kernel
theorem dX2_takeError_35 : decode cX2_takeError 35 = .ok (.iastore, 1) := by decide +kernel
theorem dX2_takeError_36 : decode cX2_takeError 36 = .ok (.aload_n 0, 1) := by decide +kernel
theorem dX2_takeError_37 : decode cX2_takeError 37 = .ok (.iload_n 1, 1) := by decide +kernel
theorem dX2_takeError_38 : decode cX2_takeError 38 = .ok (.invokevirtual 146, 3) := by decide +kernel
theorem dX2_takeError_41 : decode cX2_takeError 41 = .ok (.ifCond .ne 28, 3) := by decide +kernel
theorem dX2_takeError_44 : decode cX2_takeError 44 = .ok (.aload_n 0, 1) := by decide +kernel
theorem dX2_takeError_45 : decode cX2_takeError 45 = .ok (.iload_n 1, 1) := by decide +kernel
theorem dX2_takeError_46 : decode cX2_takeError 46 = .ok (.iconst (-1), 1) := by decide +kernel
theorem dX2_takeError_47 : decode cX2_takeError 47 = .ok (.invokevirtual 81, 3) := by decide +kernel
theorem dX2_takeError_50 : decode cX2_takeError 50 = .ok (.aload_n 0, 1) := by decide +kernel
theorem dX2_takeError_51 : decode cX2_takeError 51 = .ok (.getfield 21, 3) := by decide +kernel
theorem dX2_takeError_54 : decode cX2_takeError 54 = .ok (.getfield 29, 3) := by decide +kernel
theorem dX2_takeError_57 : decode cX2_takeError 57 = .ok (.if_icmp .lt 12, 3) := by decide +kernel
theorem dX2_takeError_60 : decode cX2_takeError 60 = .ok (.aload_n 0, 1) := by decide +kernel
theorem dX2_takeError_61 : decode cX2_takeError 61 = .ok (.iload_n 1, 1) := by decide +kernel
theorem dX2_takeError_62 : decode cX2_takeError 62 = .ok (.invokevirtual 149, 3) := by decide +kernel
theorem dX2_takeError_65 : decode cX2_takeError 65 = .ok (.aload_n 0, 1) := by decide +kernel
theorem dX2_takeError_66 : decode cX2_takeError 66 = .ok (.invokevirtual 36, 3) := by decide +kernel
theorem dX2_takeError_69 : decode cX2_takeError 69 = .ok (.return_, 1) := by decide +kernel
theorem dX2_beginAlarm_0 : decode cX2_beginAlarm 0 = .ok (.aload_n 0, 1) := by decide +kernel
theorem dX2_beginAlarm_1 : decode cX2_beginAlarm 1 = .ok (.iload_n 1, 1) := by decide +kernel
theorem dX2_beginAlarm_2 : decode cX2_beginAlarm 2 = .ok (.invokevirtual 42, 3) := by decide +kernel
theorem dX2_beginAlarm_5 : decode cX2_beginAlarm 5 = .ok (.ifCond .eq 38, 3) := by decide +kernel
theorem dX2_beginAlarm_8 : decode cX2_beginAlarm 8 = .ok (.aload_n 0, 1) := by decide +kernel
theorem dX2_beginAlarm_9 : decode cX2_beginAlarm 9 = .ok (.getfield 21, 3) := by decide +kernel
theorem dX2_beginAlarm_12 : decode cX2_beginAlarm 12 = .ok (.getfield 50, 3) := by decide +kernel
theorem dX2_beginAlarm_15 : decode cX2_beginAlarm 15 = .ok (.iload_n 1, 1) := by decide +kernel
theorem dX2_beginAlarm_16 : decode cX2_beginAlarm 16 = .ok (.aload_n 0, 1) := by decide +kernel
theorem dX2_beginAlarm_17 : decode cX2_beginAlarm 17 = .ok (.getfield 21, 3) := by decide +kernel
theorem dX2_beginAlarm_20 : decode cX2_beginAlarm 20 = .ok (.getfield 97, 3) := by decide +kernel
theorem dX2_beginAlarm_23 : decode cX2_beginAlarm 23 = .ok (.iastore, 1) := by decide +kernel
theorem dX2_beginAlarm_24 : decode cX2_beginAlarm 24 = .ok (.aload_n 0, 1) := by decide +kernel
theorem dX2_beginAlarm_25 : decode cX2_beginAlarm 25 = .ok (.getfield 21, 3) := by decide +kernel
theorem dX2_beginAlarm_28 : decode cX2_beginAlarm 28 = .ok (.getfield 137, 3) := by decide +kernel
theorem dX2_beginAlarm_31 : decode cX2_beginAlarm 31 = .ok (.iconst 0, 1) := by decide +kernel
theorem dX2_beginAlarm_32 : decode cX2_beginAlarm 32 = .ok (.iload_n 1, 1) := by decide +kernel
theorem dX2_beginAlarm_33 : decode cX2_beginAlarm 33 = .ok (.aload_n 0, 1) := by decide +kernel
theorem dX2_beginAlarm_34 : decode cX2_beginAlarm 34 = .ok (.getfield 21, 3) := by decide +kernel
theorem dX2_beginAlarm_37 : decode cX2_beginAlarm 37 = .ok (.getfield 97, 3) := by decide +kernel
theorem dX2_beginAlarm_40 : decode cX2_beginAlarm 40 = .ok (.invokevirtual 153, 3) := by decide +kernel
theorem dX2_beginAlarm_43 : decode cX2_beginAlarm 43 = .ok (.return_, 1) := by decide +kernel
theorem dX2_endWrongAlarm_0 : decode cX2_endWrongAlarm 0 = .ok (.aload_n 0, 1) := by decide +kernel
theorem dX2_endWrongAlarm_1 : decode cX2_endWrongAlarm 1 = .ok (.iload_n 1, 1) := by decide +kernel
theorem dX2_endWrongAlarm_2 : decode cX2_endWrongAlarm 2 = .ok (.invokevirtual 42, 3) := by decide +kernel
theorem dX2_endWrongAlarm_5 : decode cX2_endWrongAlarm 5 = .ok (.ifCond .eq 43, 3) := by decide +kernel
theorem dX2_endWrongAlarm_8 : decode cX2_endWrongAlarm 8 = .ok (.aload_n 0, 1) := by decide +kernel
theorem dX2_endWrongAlarm_9 : decode cX2_endWrongAlarm 9 = .ok (.getfield 21, 3) := by decide +kernel
theorem dX2_endWrongAlarm_12 : decode cX2_endWrongAlarm 12 = .ok (.getfield 50, 3) := by decide +kernel
theorem dX2_endWrongAlarm_15 : decode cX2_endWrongAlarm 15 = .ok (.iload_n 1, 1) := by decide +kernel
theorem dX2_endWrongAlarm_16 : decode cX2_endWrongAlarm 16 = .ok (.iconst (-1), 1) := by decide +kernel
theorem dX2_endWrongAlarm_17 : decode cX2_endWrongAlarm 17 = .ok (.iastore, 1) := by decide +kernel
theorem dX2_endWrongAlarm_18 : decode cX2_endWrongAlarm 18 = .ok (.aload_n 0, 1) := by decide +kernel
theorem dX2_endWrongAlarm_19 : decode cX2_endWrongAlarm 19 = .ok (.getfield 21, 3) := by decide +kernel
theorem dX2_endWrongAlarm_22 : decode cX2_endWrongAlarm 22 = .ok (.getfield 103, 3) := by decide +kernel
theorem dX2_endWrongAlarm_25 : decode cX2_endWrongAlarm 25 = .ok (.iload_n 1, 1) := by decide +kernel
theorem dX2_endWrongAlarm_26 : decode cX2_endWrongAlarm 26 = .ok (.invokevirtual 154, 3) := by decide +kernel
theorem dX2_endWrongAlarm_29 : decode cX2_endWrongAlarm 29 = .ok (.aload_n 0, 1) := by decide +kernel
theorem dX2_endWrongAlarm_30 : decode cX2_endWrongAlarm 30 = .ok (.getfield 21, 3) := by decide +kernel
theorem dX2_endWrongAlarm_33 : decode cX2_endWrongAlarm 33 = .ok (.getfield 137, 3) := by decide +kernel
theorem dX2_endWrongAlarm_36 : decode cX2_endWrongAlarm 36 = .ok (.iconst 1, 1) := by decide +kernel
theorem dX2_endWrongAlarm_37 : decode cX2_endWrongAlarm 37 = .ok (.iload_n 1, 1) := by decide +kernel
theorem dX2_endWrongAlarm_38 : decode cX2_endWrongAlarm 38 = .ok (.aload_n 0, 1) := by decide +kernel
theorem dX2_endWrongAlarm_39 : decode cX2_endWrongAlarm 39 = .ok (.getfield 21, 3) := by decide +kernel
theorem dX2_endWrongAlarm_42 : decode cX2_endWrongAlarm 42 = .ok (.getfield 97, 3) := by decide +kernel
theorem dX2_endWrongAlarm_45 : decode cX2_endWrongAlarm 45 = .ok (.invokevirtual 153, 3) := by decide +kernel
theorem dX2_endWrongAlarm_48 : decode cX2_endWrongAlarm 48 = .ok (.return_, 1) := by decide +kernel
theorem dX2_isWrongAlarm_0 : decode cX2_isWrongAlarm 0 = .ok (.aload_n 0, 1) := by decide +kernel
theorem dX2_isWrongAlarm_1 : decode cX2_isWrongAlarm 1 = .ok (.iload_n 1, 1) := by decide +kernel
theorem dX2_isWrongAlarm_2 : decode cX2_isWrongAlarm 2 = .ok (.invokevirtual 146, 3) := by decide +kernel
theorem dX2_isWrongAlarm_5 : decode cX2_isWrongAlarm 5 = .ok (.ifCond .eq 30, 3) := by decide +kernel
theorem dX2_isWrongAlarm_8 : decode cX2_isWrongAlarm 8 = .ok (.aload_n 0, 1) := by decide +kernel
theorem dX2_isWrongAlarm_9 : decode cX2_isWrongAlarm 9 = .ok (.getfield 21, 3) := by decide +kernel
theorem dX2_isWrongAlarm_12 : decode cX2_isWrongAlarm 12 = .ok (.getfield 97, 3) := by decide +kernel
theorem dX2_isWrongAlarm_15 : decode cX2_isWrongAlarm 15 = .ok (.aload_n 0, 1) := by decide +kernel
theorem dX2_isWrongAlarm_16 : decode cX2_isWrongAlarm 16 = .ok (.getfield 21, 3) := by decide +kernel
theorem dX2_isWrongAlarm_19 : decode cX2_isWrongAlarm 19 = .ok (.getfield 50, 3) := by decide +kernel
theorem dX2_isWrongAlarm_22 : decode cX2_isWrongAlarm 22 = .ok (.iload_n 1, 1) := by decide +kernel
theorem dX2_isWrongAlarm_23 : decode cX2_isWrongAlarm 23 = .ok (.iaload, 1) := by decide +kernel
theorem dX2_isWrongAlarm_24 : decode cX2_isWrongAlarm 24 = .ok (.isub, 1) := by decide +kernel
theorem dX2_isWrongAlarm_25 : decode cX2_isWrongAlarm 25 = .ok (.aload_n 0, 1) := by decide +kernel
theorem dX2_isWrongAlarm_26 : decode cX2_isWrongAlarm 26 = .ok (.getfield 12, 3) := by decide +kernel
theorem dX2_isWrongAlarm_29 : decode cX2_isWrongAlarm 29 = .ok (.getfield 157, 3) := by decide +kernel
theorem dX2_isWrongAlarm_32 : decode cX2_isWrongAlarm 32 = .ok (.if_icmp .ge 5, 3) := by decide +kernel
theorem dX2_isWrongAlarm_35 : decode cX2_isWrongAlarm 35 = .ok (.iconst 0, 1) := by decide +kernel
theorem dX2_isWrongAlarm_36 : decode cX2_isWrongAlarm 36 = .ok (.ireturn, 1) := by decide +kernel
theorem dX2_isWrongAlarm_37 : decode cX2_isWrongAlarm 37 = .ok (.aload_n 0, 1) := by decide +kernel
theorem dX2_isWrongAlarm_38 : decode cX2_isWrongAlarm 38 = .ok (.getfield 21, 3) := by decide +kernel
theorem dX2_isWrongAlarm_41 : decode cX2_isWrongAlarm 41 = .ok (.getfield 103, 3) := by decide +kernel
theorem dX2_isWrongAlarm_44 : decode cX2_isWrongAlarm 44 = .ok (.getfield 107, 3) := by decide +kernel
theorem dX2_isWrongAlarm_47 : decode cX2_isWrongAlarm 47 = .ok (.iload_n 1, 1) := by decide +kernel
theorem dX2_isWrongAlarm_48 : decode cX2_isWrongAlarm 48 = .ok (.iaload, 1) := by decide +kernel
theorem dX2_isWrongAlarm_49 : decode cX2_isWrongAlarm 49 = .ok (.ifCond .eq 33, 3) := by decide +kernel
theorem dX2_isWrongAlarm_52 : decode cX2_isWrongAlarm 52 = .ok (.aload_n 0, 1) := by decide +kernel
theorem dX2_isWrongAlarm_53 : decode cX2_isWrongAlarm 53 = .ok (.getfield 21, 3) := by decide +kernel
theorem dX2_isWrongAlarm_56 : decode cX2_isWrongAlarm 56 = .ok (.getfield 97, 3) := by decide +kernel
theorem dX2_isWrongAlarm_59 : decode cX2_isWrongAlarm 59 = .ok (.aload_n 0, 1) := by decide +kernel
theorem dX2_isWrongAlarm_60 : decode cX2_isWrongAlarm 60 = .ok (.getfield 21, 3) := by decide +kernel
theorem dX2_isWrongAlarm_63 : decode cX2_isWrongAlarm 63 = .ok (.getfield 103, 3) := by decide +kernel
theorem dX2_isWrongAlarm_66 : decode cX2_isWrongAlarm 66 = .ok (.iload_n 1, 1) := by decide +kernel
theorem dX2_isWrongAlarm_67 : decode cX2_isWrongAlarm 67 = .ok (.iconst 0, 1) := by decide +kernel
theorem dX2_isWrongAlarm_68 : decode cX2_isWrongAlarm 68 = .ok (.invokevirtual 115, 3) := by decide +kernel
theorem dX2_isWrongAlarm_71 : decode cX2_isWrongAlarm 71 = .ok (.isub, 1) := by decide +kernel
theorem dX2_isWrongAlarm_72 : decode cX2_isWrongAlarm 72 = .ok (.aload_n 0, 1) := by decide +kernel
theorem dX2_isWrongAlarm_73 : decode cX2_isWrongAlarm 73 = .ok (.getfield 12, 3) := by decide +kernel
theorem dX2_isWrongAlarm_76 : decode cX2_isWrongAlarm 76 = .ok (.getfield 157, 3) := by decide +kernel
theorem dX2_isWrongAlarm_79 : decode cX2_isWrongAlarm 79 = .ok (.if_icmp .lt 7, 3) := by decide +kernel
theorem dX2_isWrongAlarm_82 : decode cX2_isWrongAlarm 82 = .ok (.iconst 1, 1) := by decide +kernel
theorem dX2_isWrongAlarm_83 : decode cX2_isWrongAlarm 83 = .ok (.goto 4, 3) := by decide +kernel
theorem dX2_isWrongAlarm_86 : decode cX2_isWrongAlarm 86 = .ok (.iconst 0, 1) := by decide +kernel
theorem dX2_isWrongAlarm_87 : decode cX2_isWrongAlarm 87 = .ok (.ireturn, 1) := by decide +kernel
theorem dX2_pullOut_0 : decode cX2_pullOut 0 = .ok (.aload_n 0, 1) := by decide +kernel
theorem dX2_pullOut_1 : decode cX2_pullOut 1 = .ok (.iload_n 1, 1) := by decide +kernel
theorem dX2_pullOut_2 : decode cX2_pullOut 2 = .ok (.invokevirtual 42, 3) := by decide +kernel
theorem dX2_pullOut_5 : decode cX2_pullOut 5 = .ok (.ifCond .ne 5, 3) := by decide +kernel
theorem dX2_pullOut_8 : decode cX2_pullOut 8 = .ok (.iconst 0, 1) := by decide +kernel
theorem dX2_pullOut_9 : decode cX2_pullOut 9 = .ok (.ireturn, 1) := by decide +kernel
theorem dX2_pullOut_10 : decode cX2_pullOut 10 = .ok (.aload_n 0, 1) := by decide +kernel
theorem dX2_pullOut_11 : decode cX2_pullOut 11 = .ok (.getfield 21, 3) := by decide +kernel
theorem dX2_pullOut_14 : decode cX2_pullOut 14 = .ok (.getfield 137, 3) := by decide +kernel
theorem dX2_pullOut_17 : decode cX2_pullOut 17 = .ok (.aload_n 0, 1) := by decide +kernel
theorem dX2_pullOut_18 : decode cX2_pullOut 18 = .ok (.iload_n 1, 1) := by decide +kernel
theorem dX2_pullOut_19 : decode cX2_pullOut 19 = .ok (.invokevirtual 146, 3) := by decide +kernel
theorem dX2_pullOut_22 : decode cX2_pullOut 22 = .ok (.ifCond .eq 7, 3) := by decide +kernel
theorem dX2_pullOut_25 : decode cX2_pullOut 25 = .ok (.iconst 2, 1) := by decide +kernel
theorem dX2_pullOut_26 : decode cX2_pullOut 26 = .ok (.goto 4, 3) := by decide +kernel
theorem dX2_pullOut_29 : decode cX2_pullOut 29 = .ok (.iconst 3, 1) := by decide +kernel
theorem dX2_pullOut_30 : decode cX2_pullOut 30 = .ok (.iload_n 1, 1) := by decide +kernel
theorem dX2_pullOut_31 : decode cX2_pullOut 31 = .ok (.aload_n 0, 1) := by decide +kernel
theorem dX2_pullOut_32 : decode cX2_pullOut 32 = .ok (.getfield 21, 3) := by decide +kernel
theorem dX2_pullOut_35 : decode cX2_pullOut 35 = .ok (.getfield 97, 3) := by decide +kernel
theorem dX2_pullOut_38 : decode cX2_pullOut 38 = .ok (.invokevirtual 153, 3) := by decide +kernel
theorem dX2_pullOut_41 : decode cX2_pullOut 41 = .ok (.aload_n 0, 1) := by decide +kernel
theorem dX2_pullOut_42 : decode cX2_pullOut 42 = .ok (.getfield 21, 3) := by decide +kernel
theorem dX2_pullOut_45 : decode cX2_pullOut 45 = .ok (.getfield 46, 3) := by decide +kernel
theorem dX2_pullOut_48 : decode cX2_pullOut 48 = .ok (.iload_n 1, 1) := by decide +kernel
theorem dX2_pullOut_49 : decode cX2_pullOut 49 = .ok (.iconst (-1), 1) := by decide +kernel
theorem dX2_pullOut_50 : decode cX2_pullOut 50 = .ok (.iastore, 1) := by decide +kernel
theorem dX2_pullOut_51 : decode cX2_pullOut 51 = .ok (.aload_n 0, 1) := by decide +kernel
theorem dX2_pullOut_52 : decode cX2_pullOut 52 = .ok (.getfield 21, 3) := by decide +kernel
theorem dX2_pullOut_55 : decode cX2_pullOut 55 = .ok (.getfield 50, 3) := by decide +kernel
theorem dX2_pullOut_58 : decode cX2_pullOut 58 = .ok (.iload_n 1, 1) := by decide +kernel
theorem dX2_pullOut_59 : decode cX2_pullOut 59 = .ok (.iconst (-1), 1) := by decide +kernel
theorem dX2_pullOut_60 : decode cX2_pullOut 60 = .ok (.iastore, 1) := by decide +kernel
theorem dX2_pullOut_61 : decode cX2_pullOut 61 = .ok (.aload_n 0, 1) := by decide +kernel
theorem dX2_pullOut_62 : decode cX2_pullOut 62 = .ok (.getfield 21, 3) := by decide +kernel
theorem dX2_pullOut_65 : decode cX2_pullOut 65 = .ok (.getfield 103, 3) := by decide +kernel
theorem dX2_pullOut_68 : decode cX2_pullOut 68 = .ok (.iload_n 1, 1) := by decide +kernel
theorem dX2_pullOut_69 : decode cX2_pullOut 69 = .ok (.invokevirtual 154, 3) := by decide +kernel
theorem dX2_pullOut_72 : decode cX2_pullOut 72 = .ok (.iconst 0, 1) := by decide +kernel
theorem dX2_pullOut_73 : decode cX2_pullOut 73 = .ok (.istore_n 2, 1) := by decide +kernel
theorem dX2_pullOut_74 : decode cX2_pullOut 74 = .ok (.iconst 0, 1) := by decide +kernel
theorem dX2_pullOut_75 : decode cX2_pullOut 75 = .ok (.istore_n 3, 1) := by decide +kernel
theorem dX2_pullOut_76 : decode cX2_pullOut 76 = .ok (.iload_n 3, 1) := by decide +kernel
theorem dX2_pullOut_77 : decode cX2_pullOut 77 = .ok (.aload_n 0, 1) := by decide +kernel
theorem dX2_pullOut_78 : decode cX2_pullOut 78 = .ok (.getfield 12, 3) := by decide +kernel
theorem dX2_pullOut_81 : decode cX2_pullOut 81 = .ok (.getfield 53, 3) := by decide +kernel
theorem dX2_pullOut_84 : decode cX2_pullOut 84 = .ok (.if_icmp .ge 30, 3) := by decide +kernel
theorem dX2_pullOut_87 : decode cX2_pullOut 87 = .ok (.aload_n 0, 1) := by decide +kernel
theorem dX2_pullOut_88 : decode cX2_pullOut 88 = .ok (.getfield 21, 3) := by decide +kernel
theorem dX2_pullOut_91 : decode cX2_pullOut 91 = .ok (.getfield 56, 3) := by decide +kernel
theorem dX2_pullOut_94 : decode cX2_pullOut 94 = .ok (.iload_n 3, 1) := by decide +kernel
theorem dX2_pullOut_95 : decode cX2_pullOut 95 = .ok (.iaload, 1) := by decide +kernel
theorem dX2_pullOut_96 : decode cX2_pullOut 96 = .ok (.iload_n 1, 1) := by decide +kernel
theorem dX2_pullOut_97 : decode cX2_pullOut 97 = .ok (.if_icmp .ne 11, 3) := by decide +kernel
theorem dX2_pullOut_100 : decode cX2_pullOut 100 = .ok (.iload_n 2, 1) := by decide +kernel
theorem dX2_pullOut_101 : decode cX2_pullOut 101 = .ok (.aload_n 0, 1) := by decide +kernel
theorem dX2_pullOut_102 : decode cX2_pullOut 102 = .ok (.iload_n 3, 1) := by decide +kernel
theorem dX2_pullOut_103 : decode cX2_pullOut 103 = .ok (.invokevirtual 160, 3) := by decide +kernel
theorem dX2_pullOut_106 : decode cX2_pullOut 106 = .ok (.iadd, 1) := by decide +kernel
theorem dX2_pullOut_107 : decode cX2_pullOut 107 = .ok (.istore_n 2, 1) := by decide +kernel
theorem dX2_pullOut_108 : decode cX2_pullOut 108 = .ok (.iinc 3 1, 3) := by decide +kernel
theorem dX2_pullOut_111 : decode cX2_pullOut 111 = .ok (.goto (-35), 3) := by decide +kernel
theorem dX2_pullOut_114 : decode cX2_pullOut 114 = .ok (.aload_n 0, 1) := by decide +kernel
theorem dX2_pullOut_115 : decode cX2_pullOut 115 = .ok (.getfield 21, 3) := by decide +kernel
theorem dX2_pullOut_118 : decode cX2_pullOut 118 = .ok (.getfield 137, 3) := by decide +kernel
theorem dX2_pullOut_121 : decode cX2_pullOut 121 = .ok (.getfield 141, 3) := by decide +kernel
theorem dX2_pullOut_124 : decode cX2_pullOut 124 = .ok (.bipush 8, 2) := by decide +kernel
theorem dX2_pullOut_126 : decode cX2_pullOut 126 = .ok (.dup2, 1) := by decide +kernel
theorem dX2_pullOut_127 : decode cX2_pullOut 127 = .ok (.iaload, 1) := by decide +kernel
theorem dX2_pullOut_128 : decode cX2_pullOut 128 = .ok (.iload_n 2, 1) := by decide +kernel
theorem dX2_pullOut_129 : decode cX2_pullOut 129 = .ok (.iadd, 1) := by decide +kernel
theorem dX2_pullOut_130 : decode cX2_pullOut 130 = .ok (.iastore, 1) := by decide +kernel
theorem dX2_pullOut_131 : decode cX2_pullOut 131 = .ok (.aload_n 0, 1) := by decide +kernel
theorem dX2_pullOut_132 : decode cX2_pullOut 132 = .ok (.invokevirtual 36, 3) := by decide +kernel
theorem dX2_pullOut_135 : decode cX2_pullOut 135 = .ok (.iload_n 2, 1) := by decide +kernel
theorem dX2_pullOut_136 : decode cX2_pullOut 136 = .ok (.ireturn, 1) := by decide +kernel
theorem dX2_dropStream_0 : decode cX2_dropStream 0 = .ok (.aload_n 0, 1) := by decide +kernel
theorem dX2_dropStream_1 : decode cX2_dropStream 1 = .ok (.getfield 21, 3) := by decide +kernel
theorem dX2_dropStream_4 : decode cX2_dropStream 4 = .ok (.getfield 62, 3) := by decide +kernel
theorem dX2_dropStream_7 : decode cX2_dropStream 7 = .ok (.iload_n 1, 1) := by decide +kernel
theorem dX2_dropStream_8 : decode cX2_dropStream 8 = .ok (.iaload, 1) := by decide +kernel
theorem dX2_dropStream_9 : decode cX2_dropStream 9 = .ok (.istore_n 2, 1) := by decide +kernel
theorem dX2_dropStream_10 : decode cX2_dropStream 10 = .ok (.iload_n 2, 1) := by decide +kernel
theorem dX2_dropStream_11 : decode cX2_dropStream 11 = .ok (.ifCond .le 23, 3) := by decide +kernel
theorem dX2_dropStream_14 : decode cX2_dropStream 14 = .ok (.aload_n 0, 1) := by decide +kernel
theorem dX2_dropStream_15 : decode cX2_dropStream 15 = .ok (.getfield 21, 3) := by decide +kernel
theorem dX2_dropStream_18 : decode cX2_dropStream 18 = .ok (.getfield 137, 3) := by decide +kernel
theorem dX2_dropStream_21 : decode cX2_dropStream 21 = .ok (.bipush 7, 2) := by decide +kernel
theorem dX2_dropStream_23 : decode cX2_dropStream 23 = .ok (.iload_n 1, 1) := by decide +kernel
theorem dX2_dropStream_24 : decode cX2_dropStream 24 = .ok (.aload_n 0, 1) := by decide +kernel
theorem dX2_dropStream_25 : decode cX2_dropStream 25 = .ok (.getfield 21, 3) := by decide +kernel
theorem dX2_dropStream_28 : decode cX2_dropStream 28 = .ok (.getfield 97, 3) := by decide +kernel
theorem dX2_dropStream_31 : decode cX2_dropStream 31 = .ok (.invokevirtual 153, 3) := by decide +kernel
theorem dX2_dropStream_34 : decode cX2_dropStream 34 = .ok (.aload_n 0, 1) := by decide +kernel
theorem dX2_dropStream_35 : decode cX2_dropStream 35 = .ok (.getfield 21, 3) := by decide +kernel
theorem dX2_dropStream_38 : decode cX2_dropStream 38 = .ok (.getfield 62, 3) := by decide +kernel
theorem dX2_dropStream_41 : decode cX2_dropStream 41 = .ok (.iload_n 1, 1) := by decide +kernel
theorem dX2_dropStream_42 : decode cX2_dropStream 42 = .ok (.iconst 0, 1) := by decide +kernel
theorem dX2_dropStream_43 : decode cX2_dropStream 43 = .ok (.iastore, 1) := by decide +kernel
theorem dX2_dropStream_44 : decode cX2_dropStream 44 = .ok (.aload_n 0, 1) := by decide +kernel
theorem dX2_dropStream_45 : decode cX2_dropStream 45 = .ok (.getfield 21, 3) := by decide +kernel
theorem dX2_dropStream_48 : decode cX2_dropStream 48 = .ok (.getfield 56, 3) := by decide +kernel
theorem dX2_dropStream_51 : decode cX2_dropStream 51 = .ok (.iload_n 1, 1) := by decide +kernel
theorem dX2_dropStream_52 : decode cX2_dropStream 52 = .ok (.iconst (-1), 1) := by decide +kernel
theorem dX2_dropStream_53 : decode cX2_dropStream 53 = .ok (.iastore, 1) := by decide +kernel
theorem dX2_dropStream_54 : decode cX2_dropStream 54 = .ok (.aload_n 0, 1) := by decide +kernel
theorem dX2_dropStream_55 : decode cX2_dropStream 55 = .ok (.getfield 21, 3) := by decide +kernel
theorem dX2_dropStream_58 : decode cX2_dropStream 58 = .ok (.getfield 163, 3) := by decide +kernel
theorem dX2_dropStream_61 : decode cX2_dropStream 61 = .ok (.iload_n 1, 1) := by decide +kernel
theorem dX2_dropStream_62 : decode cX2_dropStream 62 = .ok (.iconst 0, 1) := by decide +kernel
theorem dX2_dropStream_63 : decode cX2_dropStream 63 = .ok (.iastore, 1) := by decide +kernel
theorem dX2_dropStream_64 : decode cX2_dropStream 64 = .ok (.iload_n 2, 1) := by decide +kernel
theorem dX2_dropStream_65 : decode cX2_dropStream 65 = .ok (.ireturn, 1) := by decide +kernel
theorem dX2_putIn_0 : decode cX2_putIn 0 = .ok (.aload_n 0, 1) := by decide +kernel
theorem dX2_putIn_1 : decode cX2_putIn 1 = .ok (.iload_n 1, 1) := by decide +kernel
theorem dX2_putIn_2 : decode cX2_putIn 2 = .ok (.invokevirtual 42, 3) := by decide +kernel
theorem dX2_putIn_5 : decode cX2_putIn 5 = .ok (.ifCond .eq 27, 3) := by decide +kernel
theorem dX2_putIn_8 : decode cX2_putIn 8 = .ok (.aload_n 0, 1) := by decide +kernel
theorem dX2_putIn_9 : decode cX2_putIn 9 = .ok (.getfield 21, 3) := by decide +kernel
theorem dX2_putIn_12 : decode cX2_putIn 12 = .ok (.getfield 46, 3) := by decide +kernel
theorem dX2_putIn_15 : decode cX2_putIn 15 = .ok (.iload_n 1, 1) := by decide +kernel
theorem dX2_putIn_16 : decode cX2_putIn 16 = .ok (.iload_n 2, 1) := by decide +kernel
theorem dX2_putIn_17 : decode cX2_putIn 17 = .ok (.iastore, 1) := by decide +kernel
theorem dX2_putIn_18 : decode cX2_putIn 18 = .ok (.aload_n 0, 1) := by decide +kernel
theorem dX2_putIn_19 : decode cX2_putIn 19 = .ok (.getfield 21, 3) := by decide +kernel
theorem dX2_putIn_22 : decode cX2_putIn 22 = .ok (.getfield 50, 3) := by decide +kernel
theorem dX2_putIn_25 : decode cX2_putIn 25 = .ok (.iload_n 1, 1) := by decide +kernel
theorem dX2_putIn_26 : decode cX2_putIn 26 = .ok (.iconst (-1), 1) := by decide +kernel
theorem dX2_putIn_27 : decode cX2_putIn 27 = .ok (.iastore, 1) := by decide +kernel
theorem dX2_putIn_28 : decode cX2_putIn 28 = .ok (.aload_n 0, 1) := by decide +kernel
theorem dX2_putIn_29 : decode cX2_putIn 29 = .ok (.invokevirtual 36, 3) := by decide +kernel
theorem dX2_putIn_32 : decode cX2_putIn 32 = .ok (.return_, 1) := by decide +kernel
theorem dX2_reserved_0 : decode cX2_reserved 0 = .ok (.iconst 0, 1) := by decide +kernel
theorem dX2_reserved_1 : decode cX2_reserved 1 = .ok (.istore_n 1, 1) := by decide +kernel
theorem dX2_reserved_2 : decode cX2_reserved 2 = .ok (.iconst 0, 1) := by decide +kernel
theorem dX2_reserved_3 : decode cX2_reserved 3 = .ok (.istore_n 2, 1) := by decide +kernel
theorem dX2_reserved_4 : decode cX2_reserved 4 = .ok (.iload_n 2, 1) := by decide +kernel
theorem dX2_reserved_5 : decode cX2_reserved 5 = .ok (.aload_n 0, 1) := by decide +kernel
theorem dX2_reserved_6 : decode cX2_reserved 6 = .ok (.getfield 12, 3) := by decide +kernel
theorem dX2_reserved_9 : decode cX2_reserved 9 = .ok (.getfield 53, 3) := by decide +kernel
theorem dX2_reserved_12 : decode cX2_reserved 12 = .ok (.if_icmp .ge 33, 3) := by decide +kernel
theorem dX2_reserved_15 : decode cX2_reserved 15 = .ok (.aload_n 0, 1) := by decide +kernel
theorem dX2_reserved_16 : decode cX2_reserved 16 = .ok (.getfield 21, 3) := by decide +kernel
theorem dX2_reserved_19 : decode cX2_reserved 19 = .ok (.getfield 163, 3) := by decide +kernel
theorem dX2_reserved_22 : decode cX2_reserved 22 = .ok (.iload_n 2, 1) := by decide +kernel
theorem dX2_reserved_23 : decode cX2_reserved 23 = .ok (.iaload, 1) := by decide +kernel
theorem dX2_reserved_24 : decode cX2_reserved 24 = .ok (.ifCond .eq 15, 3) := by decide +kernel
theorem dX2_reserved_27 : decode cX2_reserved 27 = .ok (.iload_n 1, 1) := by decide +kernel
theorem dX2_reserved_28 : decode cX2_reserved 28 = .ok (.aload_n 0, 1) := by decide +kernel
theorem dX2_reserved_29 : decode cX2_reserved 29 = .ok (.getfield 12, 3) := by decide +kernel
theorem dX2_reserved_32 : decode cX2_reserved 32 = .ok (.getfield 59, 3) := by decide +kernel
theorem dX2_reserved_35 : decode cX2_reserved 35 = .ok (.iload_n 2, 1) := by decide +kernel
theorem dX2_reserved_36 : decode cX2_reserved 36 = .ok (.iaload, 1) := by decide +kernel
theorem dX2_reserved_37 : decode cX2_reserved 37 = .ok (.iadd, 1) := by decide +kernel
theorem dX2_reserved_38 : decode cX2_reserved 38 = .ok (.istore_n 1, 1) := by decide +kernel
theorem dX2_reserved_39 : decode cX2_reserved 39 = .ok (.iinc 2 1, 3) := by decide +kernel
theorem dX2_reserved_42 : decode cX2_reserved 42 = .ok (.goto (-38), 3) := by decide +kernel
theorem dX2_reserved_45 : decode cX2_reserved 45 = .ok (.iload_n 1, 1) := by decide +kernel
theorem dX2_reserved_46 : decode cX2_reserved 46 = .ok (.ireturn, 1) := by decide +kernel
theorem dX2_heirOfHome_0 : decode cX2_heirOfHome 0 = .ok (.aload_n 0, 1) := by decide +kernel
theorem dX2_heirOfHome_1 : decode cX2_heirOfHome 1 = .ok (.getfield 12, 3) := by decide +kernel
theorem dX2_heirOfHome_4 : decode cX2_heirOfHome 4 = .ok (.getfield 166, 3) := by decide +kernel
theorem dX2_heirOfHome_7 : decode cX2_heirOfHome 7 = .ok (.iload_n 1, 1) := by decide +kernel
theorem dX2_heirOfHome_8 : decode cX2_heirOfHome 8 = .ok (.iaload, 1) := by decide +kernel
theorem dX2_heirOfHome_9 : decode cX2_heirOfHome 9 = .ok (.istore_n 2, 1) := by decide +kernel
theorem dX2_heirOfHome_10 : decode cX2_heirOfHome 10 = .ok (.aload_n 0, 1) := by decide +kernel
theorem dX2_heirOfHome_11 : decode cX2_heirOfHome 11 = .ok (.iload_n 2, 1) := by decide +kernel
theorem dX2_heirOfHome_12 : decode cX2_heirOfHome 12 = .ok (.invokevirtual 42, 3) := by decide +kernel
theorem dX2_heirOfHome_15 : decode cX2_heirOfHome 15 = .ok (.ifCond .eq 15, 3) := by decide +kernel
theorem dX2_heirOfHome_18 : decode cX2_heirOfHome 18 = .ok (.aload_n 0, 1) := by decide +kernel
theorem dX2_heirOfHome_19 : decode cX2_heirOfHome 19 = .ok (.getfield 12, 3) := by decide +kernel
theorem dX2_heirOfHome_22 : decode cX2_heirOfHome 22 = .ok (.getfield 169, 3) := by decide +kernel
theorem dX2_heirOfHome_25 : decode cX2_heirOfHome 25 = .ok (.iload_n 2, 1) := by decide +kernel
theorem dX2_heirOfHome_26 : decode cX2_heirOfHome 26 = .ok (.iaload, 1) := by decide +kernel
theorem dX2_heirOfHome_27 : decode cX2_heirOfHome 27 = .ok (.goto 4, 3) := by decide +kernel
theorem dX2_heirOfHome_30 : decode cX2_heirOfHome 30 = .ok (.iconst (-1), 1) := by decide +kernel
theorem dX2_heirOfHome_31 : decode cX2_heirOfHome 31 = .ok (.ireturn, 1) := by decide +kernel
theorem dX2_wantedHolder_0 : decode cX2_wantedHolder 0 = .ok (.aload_n 0, 1) := by decide +kernel
theorem dX2_wantedHolder_1 : decode cX2_wantedHolder 1 = .ok (.getfield 12, 3) := by decide +kernel
theorem dX2_wantedHolder_4 : decode cX2_wantedHolder 4 = .ok (.getfield 166, 3) := by decide +kernel
theorem dX2_wantedHolder_7 : decode cX2_wantedHolder 7 = .ok (.iload_n 1, 1) := by decide +kernel
theorem dX2_wantedHolder_8 : decode cX2_wantedHolder 8 = .ok (.iaload, 1) := by decide +kernel
theorem dX2_wantedHolder_9 : decode cX2_wantedHolder 9 = .ok (.istore_n 2, 1) := by decide +kernel
theorem dX2_wantedHolder_10 : decode cX2_wantedHolder 10 = .ok (.aload_n 0, 1) := by decide +kernel
theorem dX2_wantedHolder_11 : decode cX2_wantedHolder 11 = .ok (.iload_n 2, 1) := by decide +kernel
theorem dX2_wantedHolder_12 : decode cX2_wantedHolder 12 = .ok (.invokevirtual 130, 3) := by decide +kernel
theorem dX2_wantedHolder_15 : decode cX2_wantedHolder 15 = .ok (.ifCond .eq 5, 3) := by decide +kernel
theorem dX2_wantedHolder_18 : decode cX2_wantedHolder 18 = .ok (.iload_n 2, 1) := by decide +kernel
theorem dX2_wantedHolder_19 : decode cX2_wantedHolder 19 = .ok (.ireturn, 1) := by decide +kernel
theorem dX2_wantedHolder_20 : decode cX2_wantedHolder 20 = .ok (.aload_n 0, 1) := by decide +kernel
theorem dX2_wantedHolder_21 : decode cX2_wantedHolder 21 = .ok (.iload_n 1, 1) := by decide +kernel
theorem dX2_wantedHolder_22 : decode cX2_wantedHolder 22 = .ok (.invokevirtual 172, 3) := by decide +kernel
theorem dX2_wantedHolder_25 : decode cX2_wantedHolder 25 = .ok (.istore_n 3, 1) := by decide +kernel
theorem dX2_wantedHolder_26 : decode cX2_wantedHolder 26 = .ok (.aload_n 0, 1) := by decide +kernel
theorem dX2_wantedHolder_27 : decode cX2_wantedHolder 27 = .ok (.iload_n 3, 1) := by decide +kernel
theorem dX2_wantedHolder_28 : decode cX2_wantedHolder 28 = .ok (.invokevirtual 130, 3) := by decide +kernel
theorem dX2_wantedHolder_31 : decode cX2_wantedHolder 31 = .ok (.ifCond .eq 7, 3) := by decide +kernel
theorem dX2_wantedHolder_34 : decode cX2_wantedHolder 34 = .ok (.iload_n 3, 1) := by decide +kernel
theorem dX2_wantedHolder_35 : decode cX2_wantedHolder 35 = .ok (.goto 4, 3) := by decide +kernel
theorem dX2_wantedHolder_38 : decode cX2_wantedHolder 38 = .ok (.iconst (-1), 1) := by decide +kernel
theorem dX2_wantedHolder_39 : decode cX2_wantedHolder 39 = .ok (.ireturn, 1) := by decide +kernel
theorem dX2_settle_0 : decode cX2_settle 0 = .ok (.iconst 0, 1) := by decide +kernel
theorem dX2_settle_1 : decode cX2_settle 1 = .ok (.istore_n 1, 1) := by decide +kernel
theorem dX2_settle_2 : decode cX2_settle 2 = .ok (.iload_n 1, 1) := by decide +kernel
theorem dX2_settle_3 : decode cX2_settle 3 = .ok (.aload_n 0, 1) := by decide +kernel
theorem dX2_settle_4 : decode cX2_settle 4 = .ok (.getfield 12, 3) := by decide +kernel
theorem dX2_settle_7 : decode cX2_settle 7 = .ok (.getfield 53, 3) := by decide +kernel
theorem dX2_settle_10 : decode cX2_settle 10 = .ok (.if_icmp .ge 26, 3) := by decide +kernel
theorem dX2_settle_13 : decode cX2_settle 13 = .ok (.aload_n 0, 1) := by decide +kernel
theorem dX2_settle_14 : decode cX2_settle 14 = .ok (.getfield 21, 3) := by decide +kernel
theorem dX2_settle_17 : decode cX2_settle 17 = .ok (.getfield 163, 3) := by decide +kernel
theorem dX2_settle_20 : decode cX2_settle 20 = .ok (.iload_n 1, 1) := by decide +kernel
theorem dX2_settle_21 : decode cX2_settle 21 = .ok (.iaload, 1) := by decide +kernel
theorem dX2_settle_22 : decode cX2_settle 22 = .ok (.ifCond .eq 8, 3) := by decide +kernel
theorem dX2_settle_25 : decode cX2_settle 25 = .ok (.aload_n 0, 1) := by decide +kernel
theorem dX2_settle_26 : decode cX2_settle 26 = .ok (.iload_n 1, 1) := by decide +kernel
theorem dX2_settle_27 : decode cX2_settle 27 = .ok (.invokevirtual 178, 3) := by decide +kernel
theorem dX2_settle_30 : decode cX2_settle 30 = .ok (.iinc 1 1, 3) := by decide +kernel
theorem dX2_settle_33 : decode cX2_settle 33 = .ok (.goto (-31), 3) := by decide +kernel
theorem dX2_settle_36 : decode cX2_settle 36 = .ok (.aload_n 0, 1) := by decide +kernel
theorem dX2_settle_37 : decode cX2_settle 37 = .ok (.getfield 12, 3) := by decide +kernel
theorem dX2_settle_40 : decode cX2_settle 40 = .ok (.getfield 181, 3) := by decide +kernel
theorem dX2_settle_43 : decode cX2_settle 43 = .ok (.aload_n 0, 1) := by decide +kernel
theorem dX2_settle_44 : decode cX2_settle 44 = .ok (.invokevirtual 184, 3) := by decide +kernel
theorem dX2_settle_47 : decode cX2_settle 47 = .ok (.isub, 1) := by decide +kernel
theorem dX2_settle_48 : decode cX2_settle 48 = .ok (.istore_n 1, 1) := by decide +kernel
theorem dX2_settle_49 : decode cX2_settle 49 = .ok (.iconst 0, 1) := by decide +kernel
theorem dX2_settle_50 : decode cX2_settle 50 = .ok (.istore_n 2, 1) := by decide +kernel
theorem dX2_settle_51 : decode cX2_settle 51 = .ok (.iload_n 2, 1) := by decide +kernel
theorem dX2_settle_52 : decode cX2_settle 52 = .ok (.aload_n 0, 1) := by decide +kernel
theorem dX2_settle_53 : decode cX2_settle 53 = .ok (.getfield 12, 3) := by decide +kernel
theorem dX2_settle_56 : decode cX2_settle 56 = .ok (.getfield 53, 3) := by decide +kernel
theorem dX2_settle_59 : decode cX2_settle 59 = .ok (.if_icmp .ge 109, 3) := by decide +kernel
theorem dX2_settle_62 : decode cX2_settle 62 = .ok (.aload_n 0, 1) := by decide +kernel
theorem dX2_settle_63 : decode cX2_settle 63 = .ok (.iload_n 2, 1) := by decide +kernel
theorem dX2_settle_64 : decode cX2_settle 64 = .ok (.invokevirtual 175, 3) := by decide +kernel
theorem dX2_settle_67 : decode cX2_settle 67 = .ok (.istore_n 3, 1) := by decide +kernel
theorem dX2_settle_68 : decode cX2_settle 68 = .ok (.aload_n 0, 1) := by decide +kernel
theorem dX2_settle_69 : decode cX2_settle 69 = .ok (.getfield 21, 3) := by decide +kernel
theorem dX2_settle_72 : decode cX2_settle 72 = .ok (.getfield 163, 3) := by decide +kernel
theorem dX2_settle_75 : decode cX2_settle 75 = .ok (.iload_n 2, 1) := by decide +kernel
theorem dX2_settle_76 : decode cX2_settle 76 = .ok (.iaload, 1) := by decide +kernel
theorem dX2_settle_77 : decode cX2_settle 77 = .ok (.ifCond .ne 7, 3) := by decide +kernel
theorem dX2_settle_80 : decode cX2_settle 80 = .ok (.iconst 1, 1) := by decide +kernel
theorem dX2_settle_81 : decode cX2_settle 81 = .ok (.goto 4, 3) := by decide +kernel
theorem dX2_settle_84 : decode cX2_settle 84 = .ok (.iconst 0, 1) := by decide +kernel
theorem dX2_settle_85 : decode cX2_settle 85 = .ok (.istore 4, 2) := by decide +kernel
theorem dX2_settle_87 : decode cX2_settle 87 = .ok (.iload 4, 2) := by decide +kernel
theorem dX2_settle_89 : decode cX2_settle 89 = .ok (.ifCond .eq 73, 3) := by decide +kernel
theorem dX2_settle_92 : decode cX2_settle 92 = .ok (.iload_n 3, 1) := by decide +kernel
theorem dX2_settle_93 : decode cX2_settle 93 = .ok (.iconst (-1), 1) := by decide +kernel
theorem dX2_settle_94 : decode cX2_settle 94 = .ok (.if_icmp .eq 68, 3) := by decide +kernel
theorem dX2_settle_97 : decode cX2_settle 97 = .ok (.aload_n 0, 1) := by decide +kernel
theorem dX2_settle_98 : decode cX2_settle 98 = .ok (.getfield 12, 3) := by decide +kernel
theorem dX2_settle_101 : decode cX2_settle 101 = .ok (.getfield 59, 3) := by decide +kernel
theorem dX2_settle_104 : decode cX2_settle 104 = .ok (.iload_n 2, 1) := by decide +kernel
theorem dX2_settle_105 : decode cX2_settle 105 = .ok (.iaload, 1) := by decide +kernel
theorem dX2_settle_106 : decode cX2_settle 106 = .ok (.iload_n 1, 1) := by decide +kernel
theorem dX2_settle_107 : decode cX2_settle 107 = .ok (.if_icmp .gt 55, 3) := by decide +kernel
theorem dX2_settle_110 : decode cX2_settle 110 = .ok (.iload_n 1, 1) := by decide +kernel
theorem dX2_settle_111 : decode cX2_settle 111 = .ok (.aload_n 0, 1) := by decide +kernel
theorem dX2_settle_112 : decode cX2_settle 112 = .ok (.getfield 12, 3) := by decide +kernel
theorem dX2_settle_115 : decode cX2_settle 115 = .ok (.getfield 59, 3) := by decide +kernel
theorem dX2_settle_118 : decode cX2_settle 118 = .ok (.iload_n 2, 1) := by decide +kernel
theorem dX2_settle_119 : decode cX2_settle 119 = .ok (.iaload, 1) := by decide +kernel
theorem dX2_settle_120 : decode cX2_settle 120 = .ok (.isub, 1) := by decide +kernel
theorem dX2_settle_121 : decode cX2_settle 121 = .ok (.istore_n 1, 1) := by decide +kernel
theorem dX2_settle_122 : decode cX2_settle 122 = .ok (.aload_n 0, 1) := by decide +kernel
theorem dX2_settle_123 : decode cX2_settle 123 = .ok (.getfield 21, 3) := by decide +kernel
theorem dX2_settle_126 : decode cX2_settle 126 = .ok (.getfield 56, 3) := by decide +kernel
theorem dX2_settle_129 : decode cX2_settle 129 = .ok (.iload_n 2, 1) := by decide +kernel
theorem dX2_settle_130 : decode cX2_settle 130 = .ok (.iload_n 3, 1) := by decide +kernel
theorem dX2_settle_131 : decode cX2_settle 131 = .ok (.iastore, 1) := by decide +kernel
theorem dX2_settle_132 : decode cX2_settle 132 = .ok (.aload_n 0, 1) := by decide +kernel
theorem dX2_settle_133 : decode cX2_settle 133 = .ok (.getfield 21, 3) := by decide +kernel
theorem dX2_settle_136 : decode cX2_settle 136 = .ok (.getfield 163, 3) := by decide +kernel
theorem dX2_settle_139 : decode cX2_settle 139 = .ok (.iload_n 2, 1) := by decide +kernel
theorem dX2_settle_140 : decode cX2_settle 140 = .ok (.iconst 1, 1) := by decide +kernel
theorem dX2_settle_141 : decode cX2_settle 141 = .ok (.iastore, 1) := by decide +kernel
theorem dX2_settle_142 : decode cX2_settle 142 = .ok (.aload_n 0, 1) := by decide +kernel
theorem dX2_settle_143 : decode cX2_settle 143 = .ok (.getfield 21, 3) := by decide +kernel
theorem dX2_settle_146 : decode cX2_settle 146 = .ok (.getfield 137, 3) := by decide +kernel
theorem dX2_settle_149 : decode cX2_settle 149 = .ok (.bipush 6, 2) := by decide +kernel
theorem dX2_settle_151 : decode cX2_settle 151 = .ok (.iload_n 2, 1) := by decide +kernel
theorem dX2_settle_152 : decode cX2_settle 152 = .ok (.aload_n 0, 1) := by decide +kernel
theorem dX2_settle_153 : decode cX2_settle 153 = .ok (.getfield 21, 3) := by decide +kernel
theorem dX2_settle_156 : decode cX2_settle 156 = .ok (.getfield 97, 3) := by decide +kernel
theorem dX2_settle_159 : decode cX2_settle 159 = .ok (.invokevirtual 153, 3) := by decide +kernel
theorem dX2_settle_162 : decode cX2_settle 162 = .ok (.iinc 2 1, 3) := by decide +kernel
theorem dX2_settle_165 : decode cX2_settle 165 = .ok (.goto (-114), 3) := by decide +kernel
theorem dX2_settle_168 : decode cX2_settle 168 = .ok (.return_, 1) := by decide +kernel
theorem dX2_settleHeld_0 : decode cX2_settleHeld 0 = .ok (.aload_n 0, 1) := by decide +kernel
theorem dX2_settleHeld_1 : decode cX2_settleHeld 1 = .ok (.iload_n 1, 1) := by decide +kernel
theorem dX2_settleHeld_2 : decode cX2_settleHeld 2 = .ok (.invokevirtual 175, 3) := by decide +kernel
theorem dX2_settleHeld_5 : decode cX2_settleHeld 5 = .ok (.istore_n 2, 1) := by decide +kernel
theorem dX2_settleHeld_6 : decode cX2_settleHeld 6 = .ok (.aload_n 0, 1) := by decide +kernel
theorem dX2_settleHeld_7 : decode cX2_settleHeld 7 = .ok (.getfield 21, 3) := by decide +kernel
theorem dX2_settleHeld_10 : decode cX2_settleHeld 10 = .ok (.getfield 56, 3) := by decide +kernel
theorem dX2_settleHeld_13 : decode cX2_settleHeld 13 = .ok (.iload_n 1, 1) := by decide +kernel
theorem dX2_settleHeld_14 : decode cX2_settleHeld 14 = .ok (.iaload, 1) := by decide +kernel
theorem dX2_settleHeld_15 : decode cX2_settleHeld 15 = .ok (.iload_n 2, 1) := by decide +kernel
theorem dX2_settleHeld_16 : decode cX2_settleHeld 16 = .ok (.if_icmp .ne 16, 3) := by decide +kernel
theorem dX2_settleHeld_19 : decode cX2_settleHeld 19 = .ok (.aload_n 0, 1) := by decide +kernel
theorem dX2_settleHeld_20 : decode cX2_settleHeld 20 = .ok (.getfield 21, 3) := by decide +kernel
theorem dX2_settleHeld_23 : decode cX2_settleHeld 23 = .ok (.getfield 163, 3) := by decide +kernel
theorem dX2_settleHeld_26 : decode cX2_settleHeld 26 = .ok (.iload_n 1, 1) := by decide +kernel
theorem dX2_settleHeld_27 : decode cX2_settleHeld 27 = .ok (.iconst 1, 1) := by decide +kernel
theorem dX2_settleHeld_28 : decode cX2_settleHeld 28 = .ok (.iastore, 1) := by decide +kernel
theorem dX2_settleHeld_29 : decode cX2_settleHeld 29 = .ok (.goto 85, 3) := by decide +kernel
theorem dX2_settleHeld_32 : decode cX2_settleHeld 32 = .ok (.aload_n 0, 1) := by decide +kernel
theorem dX2_settleHeld_33 : decode cX2_settleHeld 33 = .ok (.getfield 21, 3) := by decide +kernel
theorem dX2_settleHeld_36 : decode cX2_settleHeld 36 = .ok (.getfield 62, 3) := by decide +kernel
theorem dX2_settleHeld_39 : decode cX2_settleHeld 39 = .ok (.iload_n 1, 1) := by decide +kernel
theorem dX2_settleHeld_40 : decode cX2_settleHeld 40 = .ok (.iaload, 1) := by decide +kernel
theorem dX2_settleHeld_41 : decode cX2_settleHeld 41 = .ok (.ifCond .le 16, 3) := by decide +kernel
theorem dX2_settleHeld_44 : decode cX2_settleHeld 44 = .ok (.aload_n 0, 1) := by decide +kernel
theorem dX2_settleHeld_45 : decode cX2_settleHeld 45 = .ok (.getfield 21, 3) := by decide +kernel
theorem dX2_settleHeld_48 : decode cX2_settleHeld 48 = .ok (.getfield 163, 3) := by decide +kernel
theorem dX2_settleHeld_51 : decode cX2_settleHeld 51 = .ok (.iload_n 1, 1) := by decide +kernel
theorem dX2_settleHeld_52 : decode cX2_settleHeld 52 = .ok (.iconst 2, 1) := by decide +kernel
theorem dX2_settleHeld_53 : decode cX2_settleHeld 53 = .ok (.iastore, 1) := by decide +kernel
theorem dX2_settleHeld_54 : decode cX2_settleHeld 54 = .ok (.goto 60, 3) := by decide +kernel
theorem dX2_settleHeld_57 : decode cX2_settleHeld 57 = .ok (.aload_n 0, 1) := by decide +kernel
theorem dX2_settleHeld_58 : decode cX2_settleHeld 58 = .ok (.getfield 21, 3) := by decide +kernel
theorem dX2_settleHeld_61 : decode cX2_settleHeld 61 = .ok (.getfield 56, 3) := by decide +kernel
theorem dX2_settleHeld_64 : decode cX2_settleHeld 64 = .ok (.iload_n 1, 1) := by decide +kernel
theorem dX2_settleHeld_65 : decode cX2_settleHeld 65 = .ok (.iload_n 2, 1) := by decide +kernel
theorem dX2_settleHeld_66 : decode cX2_settleHeld 66 = .ok (.iastore, 1) := by decide +kernel
theorem dX2_settleHeld_67 : decode cX2_settleHeld 67 = .ok (.aload_n 0, 1) := by decide +kernel
theorem dX2_settleHeld_68 : decode cX2_settleHeld 68 = .ok (.getfield 21, 3) := by decide +kernel
theorem dX2_settleHeld_71 : decode cX2_settleHeld 71 = .ok (.getfield 163, 3) := by decide +kernel
theorem dX2_settleHeld_74 : decode cX2_settleHeld 74 = .ok (.iload_n 1, 1) := by decide +kernel
theorem dX2_settleHeld_75 : decode cX2_settleHeld 75 = .ok (.iload_n 2, 1) := by decide +kernel
theorem dX2_settleHeld_76 : decode cX2_settleHeld 76 = .ok (.iconst (-1), 1) := by decide +kernel
theorem dX2_settleHeld_77 : decode cX2_settleHeld 77 = .ok (.if_icmp .ne 7, 3) := by decide +kernel
theorem dX2_settleHeld_80 : decode cX2_settleHeld 80 = .ok (.iconst 0, 1) := by decide +kernel
theorem dX2_settleHeld_81 : decode cX2_settleHeld 81 = .ok (.goto 4, 3) := by decide +kernel
theorem dX2_settleHeld_84 : decode cX2_settleHeld 84 = .ok (.iconst 1, 1) := by decide +kernel
theorem dX2_settleHeld_85 : decode cX2_settleHeld 85 = .ok (.iastore, 1) := by decide +kernel
theorem dX2_settleHeld_86 : decode cX2_settleHeld 86 = .ok (.aload_n 0, 1) := by decide +kernel
theorem dX2_settleHeld_87 : decode cX2_settleHeld 87 = .ok (.getfield 21, 3) := by decide +kernel
theorem dX2_settleHeld_90 : decode cX2_settleHeld 90 = .ok (.getfield 137, 3) := by decide +kernel
theorem dX2_settleHeld_93 : decode cX2_settleHeld 93 = .ok (.iload_n 2, 1) := by decide +kernel
theorem dX2_settleHeld_94 : decode cX2_settleHeld 94 = .ok (.iconst (-1), 1) := by decide +kernel
theorem dX2_settleHeld_95 : decode cX2_settleHeld 95 = .ok (.if_icmp .ne 7, 3) := by decide +kernel
theorem dX2_settleHeld_98 : decode cX2_settleHeld 98 = .ok (.iconst 5, 1) := by decide +kernel
theorem dX2_settleHeld_99 : decode cX2_settleHeld 99 = .ok (.goto 4, 3) := by decide +kernel
theorem dX2_settleHeld_102 : decode cX2_settleHeld 102 = .ok (.iconst 4, 1) := by decide +kernel
theorem dX2_settleHeld_103 : decode cX2_settleHeld 103 = .ok (.iload_n 1, 1) := by decide +kernel
theorem dX2_settleHeld_104 : decode cX2_settleHeld 104 = .ok (.aload_n 0, 1) := by decide +kernel
theorem dX2_settleHeld_105 : decode cX2_settleHeld 105 = .ok (.getfield 21, 3) := by decide +kernel
theorem dX2_settleHeld_108 : decode cX2_settleHeld 108 = .ok (.getfield 97, 3) := by decide +kernel
theorem dX2_settleHeld_111 : decode cX2_settleHeld 111 = .ok (.invokevirtual 153, 3) := by decide +kernel
theorem dX2_settleHeld_114 : decode cX2_settleHeld 114 = .ok (.return_, 1) := by decide +kernel
theorem dX2_passFrame_0 : decode cX2_passFrame 0 = .ok (.aload_n 0, 1) := by decide +kernel
theorem dX2_passFrame_1 : decode cX2_passFrame 1 = .ok (.getfield 21, 3) := by decide +kernel
theorem dX2_passFrame_4 : decode cX2_passFrame 4 = .ok (.dup, 1) := by decide +kernel
theorem dX2_passFrame_5 : decode cX2_passFrame 5 = .ok (.getfield 97, 3) := by decide +kernel
theorem dX2_passFrame_8 : decode cX2_passFrame 8 = .ok (.iconst 1, 1) := by decide +kernel
theorem dX2_passFrame_9 : decode cX2_passFrame 9 = .ok (.iadd, 1) := by decide +kernel
theorem dX2_passFrame_10 : decode cX2_passFrame 10 = .ok (.putfield 97, 3) := by decide +kernel
theorem dX2_passFrame_13 : decode cX2_passFrame 13 = .ok (.iconst 0, 1) := by decide +kernel
theorem dX2_passFrame_14 : decode cX2_passFrame 14 = .ok (.istore_n 1, 1) := by decide +kernel
theorem dX2_passFrame_15 : decode cX2_passFrame 15 = .ok (.iload_n 1, 1) := by decide +kernel
theorem dX2_passFrame_16 : decode cX2_passFrame 16 = .ok (.aload_n 0, 1) := by decide +kernel
theorem dX2_passFrame_17 : decode cX2_passFrame 17 = .ok (.getfield 12, 3) := by decide +kernel
theorem dX2_passFrame_20 : decode cX2_passFrame 20 = .ok (.getfield 53, 3) := by decide +kernel
theorem dX2_passFrame_23 : decode cX2_passFrame 23 = .ok (.if_icmp .ge 48, 3) := by decide +kernel
theorem dX2_passFrame_26 : decode cX2_passFrame 26 = .ok (.aload_n 0, 1) := by decide +kernel
theorem dX2_passFrame_27 : decode cX2_passFrame 27 = .ok (.getfield 21, 3) := by decide +kernel
theorem dX2_passFrame_30 : decode cX2_passFrame 30 = .ok (.getfield 163, 3) := by decide +kernel
theorem dX2_passFrame_33 : decode cX2_passFrame 33 = .ok (.iload_n 1, 1) := by decide +kernel
theorem dX2_passFrame_34 : decode cX2_passFrame 34 = .ok (.iaload, 1) := by decide +kernel
theorem dX2_passFrame_35 : decode cX2_passFrame 35 = .ok (.iconst 1, 1) := by decide +kernel
theorem dX2_passFrame_36 : decode cX2_passFrame 36 = .ok (.if_icmp .ne 11, 3) := by decide +kernel
theorem dX2_passFrame_39 : decode cX2_passFrame 39 = .ok (.aload_n 0, 1) := by decide +kernel
theorem dX2_passFrame_40 : decode cX2_passFrame 40 = .ok (.iload_n 1, 1) := by decide +kernel
theorem dX2_passFrame_41 : decode cX2_passFrame 41 = .ok (.invokevirtual 188, 3) := by decide +kernel
theorem dX2_passFrame_44 : decode cX2_passFrame 44 = .ok (.goto 21, 3) := by decide +kernel
theorem dX2_passFrame_47 : decode cX2_passFrame 47 = .ok (.aload_n 0, 1) := by decide +kernel
theorem dX2_passFrame_48 : decode cX2_passFrame 48 = .ok (.getfield 21, 3) := by decide +kernel
theorem dX2_passFrame_51 : decode cX2_passFrame 51 = .ok (.getfield 163, 3) := by decide +kernel
theorem dX2_passFrame_54 : decode cX2_passFrame 54 = .ok (.iload_n 1, 1) := by decide +kernel
theorem dX2_passFrame_55 : decode cX2_passFrame 55 = .ok (.iaload, 1) := by decide +kernel
theorem dX2_passFrame_56 : decode cX2_passFrame 56 = .ok (.iconst 2, 1) := by decide +kernel
theorem dX2_passFrame_57 : decode cX2_passFrame 57 = .ok (.if_icmp .ne 8, 3) := by decide +kernel
theorem dX2_passFrame_60 : decode cX2_passFrame 60 = .ok (.aload_n 0, 1) := by decide +kernel
theorem dX2_passFrame_61 : decode cX2_passFrame 61 = .ok (.iload_n 1, 1) := by decide +kernel
theorem dX2_passFrame_62 : decode cX2_passFrame 62 = .ok (.invokevirtual 191, 3) := by decide +kernel
theorem dX2_passFrame_65 : decode cX2_passFrame 65 = .ok (.iinc 1 1, 3) := by decide +kernel
theorem dX2_passFrame_68 : decode cX2_passFrame 68 = .ok (.goto (-53), 3) := by decide +kernel
theorem dX2_passFrame_71 : decode cX2_passFrame 71 = .ok (.iconst 0, 1) := by decide +kernel
theorem dX2_passFrame_72 : decode cX2_passFrame 72 = .ok (.istore_n 1, 1) := by decide +kernel
theorem dX2_passFrame_73 : decode cX2_passFrame 73 = .ok (.iload_n 1, 1) := by decide +kernel
theorem dX2_passFrame_74 : decode cX2_passFrame 74 = .ok (.aload_n 0, 1) := by decide +kernel
theorem dX2_passFrame_75 : decode cX2_passFrame 75 = .ok (.getfield 12, 3) := by decide +kernel
theorem dX2_passFrame_78 : decode cX2_passFrame 78 = .ok (.getfield 39, 3) := by decide +kernel
theorem dX2_passFrame_81 : decode cX2_passFrame 81 = .ok (.if_icmp .ge 22, 3) := by decide +kernel
theorem dX2_passFrame_84 : decode cX2_passFrame 84 = .ok (.aload_n 0, 1) := by decide +kernel
theorem dX2_passFrame_85 : decode cX2_passFrame 85 = .ok (.iload_n 1, 1) := by decide +kernel
theorem dX2_passFrame_86 : decode cX2_passFrame 86 = .ok (.invokevirtual 194, 3) := by decide +kernel
theorem dX2_passFrame_89 : decode cX2_passFrame 89 = .ok (.ifCond .eq 8, 3) := by decide +kernel
theorem dX2_passFrame_92 : decode cX2_passFrame 92 = .ok (.aload_n 0, 1) := by decide +kernel
theorem dX2_passFrame_93 : decode cX2_passFrame 93 = .ok (.iload_n 1, 1) := by decide +kernel
theorem dX2_passFrame_94 : decode cX2_passFrame 94 = .ok (.invokevirtual 197, 3) := by decide +kernel
theorem dX2_passFrame_97 : decode cX2_passFrame 97 = .ok (.iinc 1 1, 3) := by decide +kernel
theorem dX2_passFrame_100 : decode cX2_passFrame 100 = .ok (.goto (-27), 3) := by decide +kernel
theorem dX2_passFrame_103 : decode cX2_passFrame 103 = .ok (.aload_n 0, 1) := by decide +kernel
theorem dX2_passFrame_104 : decode cX2_passFrame 104 = .ok (.invokevirtual 36, 3) := by decide +kernel
theorem dX2_passFrame_107 : decode cX2_passFrame 107 = .ok (.return_, 1) := by decide +kernel
theorem dX2_sendOn_0 : decode cX2_sendOn 0 = .ok (.aload_n 0, 1) := by decide +kernel
theorem dX2_sendOn_1 : decode cX2_sendOn 1 = .ok (.getfield 21, 3) := by decide +kernel
theorem dX2_sendOn_4 : decode cX2_sendOn 4 = .ok (.getfield 62, 3) := by decide +kernel
theorem dX2_sendOn_7 : decode cX2_sendOn 7 = .ok (.iload_n 1, 1) := by decide +kernel
theorem dX2_sendOn_8 : decode cX2_sendOn 8 = .ok (.iaload, 1) := by decide +kernel
theorem dX2_sendOn_9 : decode cX2_sendOn 9 = .ok (.aload_n 0, 1) := by decide +kernel
theorem dX2_sendOn_10 : decode cX2_sendOn 10 = .ok (.getfield 12, 3) := by decide +kernel
theorem dX2_sendOn_13 : decode cX2_sendOn 13 = .ok (.getfield 59, 3) := by decide +kernel
theorem dX2_sendOn_16 : decode cX2_sendOn 16 = .ok (.iload_n 1, 1) := by decide +kernel
theorem dX2_sendOn_17 : decode cX2_sendOn 17 = .ok (.iaload, 1) := by decide +kernel
theorem dX2_sendOn_18 : decode cX2_sendOn 18 = .ok (.iadd, 1) := by decide +kernel
theorem dX2_sendOn_19 : decode cX2_sendOn 19 = .ok (.istore_n 2, 1) := by decide +kernel
theorem dX2_sendOn_20 : decode cX2_sendOn 20 = .ok (.aload_n 0, 1) := by decide +kernel
theorem dX2_sendOn_21 : decode cX2_sendOn 21 = .ok (.getfield 12, 3) := by decide +kernel
theorem dX2_sendOn_24 : decode cX2_sendOn 24 = .ok (.getfield 75, 3) := by decide +kernel
theorem dX2_sendOn_27 : decode cX2_sendOn 27 = .ok (.iload_n 1, 1) := by decide +kernel
theorem dX2_sendOn_28 : decode cX2_sendOn 28 = .ok (.iaload, 1) := by decide +kernel
theorem dX2_sendOn_29 : decode cX2_sendOn 29 = .ok (.istore_n 3, 1) := by decide +kernel
theorem dX2_sendOn_30 : decode cX2_sendOn 30 = .ok (.iload_n 3, 1) := by decide +kernel
theorem dX2_sendOn_31 : decode cX2_sendOn 31 = .ok (.ifCond .le 31, 3) := by decide +kernel
theorem dX2_sendOn_34 : decode cX2_sendOn 34 = .ok (.aload_n 0, 1) := by decide +kernel
theorem dX2_sendOn_35 : decode cX2_sendOn 35 = .ok (.getfield 21, 3) := by decide +kernel
theorem dX2_sendOn_38 : decode cX2_sendOn 38 = .ok (.getfield 200, 3) := by decide +kernel
theorem dX2_sendOn_41 : decode cX2_sendOn 41 = .ok (.iload_n 1, 1) := by decide +kernel
theorem dX2_sendOn_42 : decode cX2_sendOn 42 = .ok (.dup2, 1) := by decide +kernel
theorem dX2_sendOn_43 : decode cX2_sendOn 43 = .ok (.laload, 1) := by decide +kernel
theorem dX2_sendOn_44 : decode cX2_sendOn 44 = .ok (.iload_n 2, 1) := by decide +kernel
theorem dX2_sendOn_45 : decode cX2_sendOn 45 = .ok (.iload_n 3, 1) := by decide +kernel
theorem dX2_sendOn_46 : decode cX2_sendOn 46 = .ok (.idiv, 1) := by decide +kernel
theorem dX2_sendOn_47 : decode cX2_sendOn 47 = .ok (.i2l, 1) := by decide +kernel
theorem dX2_sendOn_48 : decode cX2_sendOn 48 = .ok (.ladd, 1) := by decide +kernel
theorem dX2_sendOn_49 : decode cX2_sendOn 49 = .ok (.lastore, 1) := by decide +kernel
theorem dX2_sendOn_50 : decode cX2_sendOn 50 = .ok (.aload_n 0, 1) := by decide +kernel
theorem dX2_sendOn_51 : decode cX2_sendOn 51 = .ok (.getfield 21, 3) := by decide +kernel
theorem dX2_sendOn_54 : decode cX2_sendOn 54 = .ok (.getfield 62, 3) := by decide +kernel
theorem dX2_sendOn_57 : decode cX2_sendOn 57 = .ok (.iload_n 1, 1) := by decide +kernel
theorem dX2_sendOn_58 : decode cX2_sendOn 58 = .ok (.iload_n 2, 1) := by decide +kernel
theorem dX2_sendOn_59 : decode cX2_sendOn 59 = .ok (.iload_n 3, 1) := by decide +kernel
theorem dX2_sendOn_60 : decode cX2_sendOn 60 = .ok (.irem, 1) := by decide +kernel
theorem dX2_sendOn_61 : decode cX2_sendOn 61 = .ok (.iastore, 1) := by decide +kernel
theorem dX2_sendOn_62 : decode cX2_sendOn 62 = .ok (.return_, 1) := by decide +kernel
theorem dX2_sendToPacketEnd_0 : decode cX2_sendToPacketEnd 0 = .ok (.aload_n 0, 1) := by decide +kernel
theorem dX2_sendToPacketEnd_1 : decode cX2_sendToPacketEnd 1 = .ok (.getfield 21, 3) := by decide +kernel
theorem dX2_sendToPacketEnd_4 : decode cX2_sendToPacketEnd 4 = .ok (.getfield 62, 3) := by decide +kernel
theorem dX2_sendToPacketEnd_7 : decode cX2_sendToPacketEnd 7 = .ok (.iload_n 1, 1) := by decide +kernel
theorem dX2_sendToPacketEnd_8 : decode cX2_sendToPacketEnd 8 = .ok (.iaload, 1) := by decide +kernel
theorem dX2_sendToPacketEnd_9 : decode cX2_sendToPacketEnd 9 = .ok (.aload_n 0, 1) := by decide +kernel
theorem dX2_sendToPacketEnd_10 : decode cX2_sendToPacketEnd 10 = .ok (.getfield 12, 3) := by decide +kernel
theorem dX2_sendToPacketEnd_13 : decode cX2_sendToPacketEnd 13 = .ok (.getfield 59, 3) := by decide +kernel
theorem dX2_sendToPacketEnd_16 : decode cX2_sendToPacketEnd 16 = .ok (.iload_n 1, 1) := by decide +kernel
theorem dX2_sendToPacketEnd_17 : decode cX2_sendToPacketEnd 17 = .ok (.iaload, 1) := by decide +kernel
theorem dX2_sendToPacketEnd_18 : decode cX2_sendToPacketEnd 18 = .ok (.iadd, 1) := by decide +kernel
theorem dX2_sendToPacketEnd_19 : decode cX2_sendToPacketEnd 19 = .ok (.istore_n 2, 1) := by decide +kernel
theorem dX2_sendToPacketEnd_20 : decode cX2_sendToPacketEnd 20 = .ok (.iload_n 2, 1) := by decide +kernel
theorem dX2_sendToPacketEnd_21 : decode cX2_sendToPacketEnd 21 = .ok (.aload_n 0, 1) := by decide +kernel
theorem dX2_sendToPacketEnd_22 : decode cX2_sendToPacketEnd 22 = .ok (.getfield 12, 3) := by decide +kernel
theorem dX2_sendToPacketEnd_25 : decode cX2_sendToPacketEnd 25 = .ok (.getfield 75, 3) := by decide +kernel
theorem dX2_sendToPacketEnd_28 : decode cX2_sendToPacketEnd 28 = .ok (.iload_n 1, 1) := by decide +kernel
theorem dX2_sendToPacketEnd_29 : decode cX2_sendToPacketEnd 29 = .ok (.iaload, 1) := by decide +kernel
theorem dX2_sendToPacketEnd_30 : decode cX2_sendToPacketEnd 30 = .ok (.if_icmp .lt 18, 3) := by decide +kernel
theorem dX2_sendToPacketEnd_33 : decode cX2_sendToPacketEnd 33 = .ok (.aload_n 0, 1) := by decide +kernel
theorem dX2_sendToPacketEnd_34 : decode cX2_sendToPacketEnd 34 = .ok (.getfield 21, 3) := by decide +kernel
theorem dX2_sendToPacketEnd_37 : decode cX2_sendToPacketEnd 37 = .ok (.getfield 200, 3) := by decide +kernel
theorem dX2_sendToPacketEnd_40 : decode cX2_sendToPacketEnd 40 = .ok (.iload_n 1, 1) := by decide +kernel
theorem dX2_sendToPacketEnd_41 : decode cX2_sendToPacketEnd 41 = .ok (.dup2, 1) := by decide +kernel
theorem dX2_sendToPacketEnd_42 : decode cX2_sendToPacketEnd 42 = .ok (.laload, 1) := by decide +kernel
theorem dX2_sendToPacketEnd_43 : decode cX2_sendToPacketEnd 43 = .ok (.lconst 1, 1) := by decide +kernel
theorem dX2_sendToPacketEnd_44 : decode cX2_sendToPacketEnd 44 = .ok (.ladd, 1) := by decide +kernel
theorem dX2_sendToPacketEnd_45 : decode cX2_sendToPacketEnd 45 = .ok (.lastore, 1) := by decide +kernel
theorem dX2_sendToPacketEnd_46 : decode cX2_sendToPacketEnd 46 = .ok (.iconst 0, 1) := by decide +kernel
theorem dX2_sendToPacketEnd_47 : decode cX2_sendToPacketEnd 47 = .ok (.istore_n 2, 1) := by decide +kernel
theorem dX2_sendToPacketEnd_48 : decode cX2_sendToPacketEnd 48 = .ok (.aload_n 0, 1) := by decide +kernel
theorem dX2_sendToPacketEnd_49 : decode cX2_sendToPacketEnd 49 = .ok (.getfield 21, 3) := by decide +kernel
theorem dX2_sendToPacketEnd_52 : decode cX2_sendToPacketEnd 52 = .ok (.getfield 62, 3) := by decide +kernel
theorem dX2_sendToPacketEnd_55 : decode cX2_sendToPacketEnd 55 = .ok (.iload_n 1, 1) := by decide +kernel
theorem dX2_sendToPacketEnd_56 : decode cX2_sendToPacketEnd 56 = .ok (.iload_n 2, 1) := by decide +kernel
theorem dX2_sendToPacketEnd_57 : decode cX2_sendToPacketEnd 57 = .ok (.iastore, 1) := by decide +kernel
theorem dX2_sendToPacketEnd_58 : decode cX2_sendToPacketEnd 58 = .ok (.return_, 1) := by decide +kernel
theorem dX3_init_0 : decode cX3_init 0 = .ok (.aload_n 0, 1) := by decide +kernel
theorem dX3_init_1 : decode cX3_init 1 = .ok (.invokespecial 3, 3) := by decide +kernel
theorem dX3_init_4 : decode cX3_init 4 = .ok (.aload_n 0, 1) := by decide +kernel
theorem dX3_init_5 : decode cX3_init 5 = .ok (.bipush 24, 2) := by decide +kernel
theorem dX3_init_7 : decode cX3_init 7 = .ok (.newarray .int, 2) := by decide +kernel
theorem dX3_init_9 : decode cX3_init 9 = .ok (.putfield 11, 3) := by decide +kernel
theorem dX3_init_12 : decode cX3_init 12 = .ok (.aload_n 0, 1) := by decide +kernel
theorem dX3_init_13 : decode cX3_init 13 = .ok (.bipush 24, 2) := by decide +kernel
theorem dX3_init_15 : decode cX3_init 15 = .ok (.newarray .int, 2) := by decide +kernel
theorem dX3_init_17 : decode cX3_init 17 = .ok (.putfield 15, 3) := by decide +kernel
theorem dX3_init_20 : decode cX3_init 20 = .ok (.aload_n 0, 1) := by decide +kernel
theorem dX3_init_21 : decode cX3_init 21 = .ok (.bipush 24, 2) := by decide +kernel
theorem dX3_init_23 : decode cX3_init 23 = .ok (.newarray .int, 2) := by decide +kernel
theorem dX3_init_25 : decode cX3_init 25 = .ok (.putfield 18, 3) := by decide +kernel
theorem dX3_init_28 : decode cX3_init 28 = .ok (.aload_n 0, 1) := by decide +kernel
theorem dX3_init_29 : decode cX3_init 29 = .ok (.bipush 10, 2) := by decide +kernel
theorem dX3_init_31 : decode cX3_init 31 = .ok (.newarray .int, 2) := by decide +kernel
theorem dX3_init_33 : decode cX3_init 33 = .ok (.putfield 21, 3) := by decide +kernel
theorem dX3_init_36 : decode cX3_init 36 = .ok (.return_, 1) := by decide +kernel
theorem dX3_clear_0 : decode cX3_clear 0 = .ok (.aload_n 0, 1) := by decide +kernel
theorem dX3_clear_1 : decode cX3_clear 1 = .ok (.iconst 0, 1) := by decide +kernel
theorem dX3_clear_2 : decode cX3_clear 2 = .ok (.putfield 24, 3) := by decide +kernel
theorem dX3_clear_5 : decode cX3_clear 5 = .ok (.aload_n 0, 1) := by decide +kernel
theorem dX3_clear_6 : decode cX3_clear 6 = .ok (.iconst 0, 1) := by decide +kernel
theorem dX3_clear_7 : decode cX3_clear 7 = .ok (.putfield 28, 3) := by decide +kernel
theorem dX3_clear_10 : decode cX3_clear 10 = .ok (.iconst 0, 1) := by decide +kernel
theorem dX3_clear_11 : decode cX3_clear 11 = .ok (.istore_n 1, 1) := by decide +kernel
theorem dX3_clear_12 : decode cX3_clear 12 = .ok (.iload_n 1, 1) := by decide +kernel
theorem dX3_clear_13 : decode cX3_clear 13 = .ok (.bipush 10, 2) := by decide +kernel
theorem dX3_clear_15 : decode cX3_clear 15 = .ok (.if_icmp .ge 16, 3) := by decide +kernel
theorem dX3_clear_18 : decode cX3_clear 18 = .ok (.aload_n 0, 1) := by decide +kernel
theorem dX3_clear_19 : decode cX3_clear 19 = .ok (.getfield 21, 3) := by decide +kernel
theorem dX3_clear_22 : decode cX3_clear 22 = .ok (.iload_n 1, 1) := by decide +kernel
theorem dX3_clear_23 : decode cX3_clear 23 = .ok (.iconst 0, 1) := by decide +kernel
theorem dX3_clear_24 : decode cX3_clear 24 = .ok (.iastore, 1) := by decide +kernel
theorem dX3_clear_25 : decode cX3_clear 25 = .ok (.iinc 1 1, 3) := by decide +kernel
theorem dX3_clear_28 : decode cX3_clear 28 = .ok (.goto (-16), 3) := by decide +kernel
theorem dX3_clear_31 : decode cX3_clear 31 = .ok (.return_, 1) := by decide +kernel
theorem dX3_copyFrom_0 : decode cX3_copyFrom 0 = .ok (.aload_n 0, 1) := by decide +kernel
theorem dX3_copyFrom_1 : decode cX3_copyFrom 1 = .ok (.aload_n 1, 1) := by decide +kernel
theorem dX3_copyFrom_2 : decode cX3_copyFrom 2 = .ok (.getfield 24, 3) := by decide +kernel
theorem dX3_copyFrom_5 : decode cX3_copyFrom 5 = .ok (.putfield 24, 3) := by decide +kernel
theorem dX3_copyFrom_8 : decode cX3_copyFrom 8 = .ok (.aload_n 0, 1) := by decide +kernel
theorem dX3_copyFrom_9 : decode cX3_copyFrom 9 = .ok (.aload_n 1, 1) := by decide +kernel
theorem dX3_copyFrom_10 : decode cX3_copyFrom 10 = .ok (.getfield 28, 3) := by decide +kernel
theorem dX3_copyFrom_13 : decode cX3_copyFrom 13 = .ok (.putfield 28, 3) := by decide +kernel
theorem dX3_copyFrom_16 : decode cX3_copyFrom 16 = .ok (.aload_n 1, 1) := by decide +kernel
theorem dX3_copyFrom_17 : decode cX3_copyFrom 17 = .ok (.getfield 11, 3) := by decide +kernel
theorem dX3_copyFrom_20 : decode cX3_copyFrom 20 = .ok (.iconst 0, 1) := by decide +kernel
theorem dX3_copyFrom_21 : decode cX3_copyFrom 21 = .ok (.aload_n 0, 1) := by decide +kernel
theorem dX3_copyFrom_22 : decode cX3_copyFrom 22 = .ok (.getfield 11, 3) := by decide +kernel
theorem dX3_copyFrom_25 : decode cX3_copyFrom 25 = .ok (.iconst 0, 1) := by decide +kernel
theorem dX3_copyFrom_26 : decode cX3_copyFrom 26 = .ok (.bipush 24, 2) := by decide +kernel
theorem dX3_copyFrom_28 : decode cX3_copyFrom 28 = .ok (.invokestatic 31, 3) := by decide +kernel
theorem dX3_copyFrom_31 : decode cX3_copyFrom 31 = .ok (.aload_n 1, 1) := by decide +kernel
theorem dX3_copyFrom_32 : decode cX3_copyFrom 32 = .ok (.getfield 15, 3) := by decide +kernel
theorem dX3_copyFrom_35 : decode cX3_copyFrom 35 = .ok (.iconst 0, 1) := by decide +kernel
theorem dX3_copyFrom_36 : decode cX3_copyFrom 36 = .ok (.aload_n 0, 1) := by decide +kernel
theorem dX3_copyFrom_37 : decode cX3_copyFrom 37 = .ok (.getfield 15, 3) := by decide +kernel
theorem dX3_copyFrom_40 : decode cX3_copyFrom 40 = .ok (.iconst 0, 1) := by decide +kernel
theorem dX3_copyFrom_41 : decode cX3_copyFrom 41 = .ok (.bipush 24, 2) := by decide +kernel
theorem dX3_copyFrom_43 : decode cX3_copyFrom 43 = .ok (.invokestatic 31, 3) := by decide +kernel
theorem dX3_copyFrom_46 : decode cX3_copyFrom 46 = .ok (.aload_n 1, 1) := by decide +kernel
theorem dX3_copyFrom_47 : decode cX3_copyFrom 47 = .ok (.getfield 18, 3) := by decide +kernel
theorem dX3_copyFrom_50 : decode cX3_copyFrom 50 = .ok (.iconst 0, 1) := by decide +kernel
theorem dX3_copyFrom_51 : decode cX3_copyFrom 51 = .ok (.aload_n 0, 1) := by decide +kernel
theorem dX3_copyFrom_52 : decode cX3_copyFrom 52 = .ok (.getfield 18, 3) := by decide +kernel
theorem dX3_copyFrom_55 : decode cX3_copyFrom 55 = .ok (.iconst 0, 1) := by decide +kernel
theorem dX3_copyFrom_56 : decode cX3_copyFrom 56 = .ok (.bipush 24, 2) := by decide +kernel
theorem dX3_copyFrom_58 : decode cX3_copyFrom 58 = .ok (.invokestatic 31, 3) := by decide +kernel
theorem dX3_copyFrom_61 : decode cX3_copyFrom 61 = .ok (.aload_n 1, 1) := by decide +kernel
theorem dX3_copyFrom_62 : decode cX3_copyFrom 62 = .ok (.getfield 21, 3) := by decide +kernel
theorem dX3_copyFrom_65 : decode cX3_copyFrom 65 = .ok (.iconst 0, 1) := by decide +kernel
theorem dX3_copyFrom_66 : decode cX3_copyFrom 66 = .ok (.aload_n 0, 1) := by decide +kernel
theorem dX3_copyFrom_67 : decode cX3_copyFrom 67 = .ok (.getfield 21, 3) := by decide +kernel
theorem dX3_copyFrom_70 : decode cX3_copyFrom 70 = .ok (.iconst 0, 1) := by decide +kernel
theorem dX3_copyFrom_71 : decode cX3_copyFrom 71 = .ok (.bipush 10, 2) := by decide +kernel
theorem dX3_copyFrom_73 : decode cX3_copyFrom 73 = .ok (.invokestatic 31, 3) := by decide +kernel
theorem dX3_copyFrom_76 : decode cX3_copyFrom 76 = .ok (.return_, 1) := by decide +kernel
theorem dX3_add_0 : decode cX3_add 0 = .ok (.iload_n 1, 1) := by decide +kernel
theorem dX3_add_1 : decode cX3_add 1 = .ok (.ifCond .lt 19, 3) := by decide +kernel
theorem dX3_add_4 : decode cX3_add 4 = .ok (.iload_n 1, 1) := by decide +kernel
theorem dX3_add_5 : decode cX3_add 5 = .ok (.bipush 10, 2) := by decide +kernel
theorem dX3_add_7 : decode cX3_add 7 = .ok (.if_icmp .ge 13, 3) := by decide +kernel
theorem dX3_add_10 : decode cX3_add 10 = .ok (.aload_n 0, 1) := by decide +kernel
theorem dX3_add_11 : decode cX3_add 11 = .ok (.getfield 21, 3) := by decide +kernel
theorem dX3_add_14 : decode cX3_add 14 = .ok (.iload_n 1, 1) := by decide +kernel
theorem dX3_add_15 : decode cX3_add 15 = .ok (.dup2, 1) := by decide +kernel
theorem dX3_add_16 : decode cX3_add 16 = .ok (.iaload, 1) := by decide +kernel
theorem dX3_add_17 : decode cX3_add 17 = .ok (.iconst 1, 1) := by decide +kernel
theorem dX3_add_18 : decode cX3_add 18 = .ok (.iadd, 1) := by decide +kernel
theorem dX3_add_19 : decode cX3_add 19 = .ok (.iastore, 1) := by decide +kernel
theorem dX3_add_20 : decode cX3_add 20 = .ok (.aload_n 0, 1) := by decide +kernel
theorem dX3_add_21 : decode cX3_add 21 = .ok (.getfield 28, 3) := by decide +kernel
theorem dX3_add_24 : decode cX3_add 24 = .ok (.ifCond .lt 12, 3) := by decide +kernel
theorem dX3_add_27 : decode cX3_add 27 = .ok (.aload_n 0, 1) := by decide +kernel
theorem dX3_add_28 : decode cX3_add 28 = .ok (.getfield 28, 3) := by decide +kernel
theorem dX3_add_31 : decode cX3_add 31 = .ok (.bipush 24, 2) := by decide +kernel
theorem dX3_add_33 : decode cX3_add 33 = .ok (.if_icmp .lt 8, 3) := by decide +kernel
theorem dX3_add_36 : decode cX3_add 36 = .ok (.aload_n 0, 1) := by decide +kernel
theorem dX3_add_37 : decode cX3_add 37 = .ok (.iconst 0, 1) := by decide +kernel
theorem dX3_add_38 : decode cX3_add 38 = .ok (.putfield 28, 3) := by decide +kernel
theorem dX3_add_41 : decode cX3_add 41 = .ok (.aload_n 0, 1) := by decide +kernel
theorem dX3_add_42 : decode cX3_add 42 = .ok (.getfield 11, 3) := by decide +kernel
theorem dX3_add_45 : decode cX3_add 45 = .ok (.aload_n 0, 1) := by decide +kernel
theorem dX3_add_46 : decode cX3_add 46 = .ok (.getfield 28, 3) := by decide +kernel
theorem dX3_add_49 : decode cX3_add 49 = .ok (.iload_n 1, 1) := by decide +kernel
theorem dX3_add_50 : decode cX3_add 50 = .ok (.iastore, 1) := by decide +kernel
theorem dX3_add_51 : decode cX3_add 51 = .ok (.aload_n 0, 1) := by decide +kernel
theorem dX3_add_52 : decode cX3_add 52 = .ok (.getfield 15, 3) := by decide +kernel
theorem dX3_add_55 : decode cX3_add 55 = .ok (.aload_n 0, 1) := by decide +kernel
theorem dX3_add_56 : decode cX3_add 56 = .ok (.getfield 28, 3) := by decide +kernel
theorem dX3_add_59 : decode cX3_add 59 = .ok (.iload_n 2, 1) := by decide +kernel
theorem dX3_add_60 : decode cX3_add 60 = .ok (.iastore, 1) := by decide +kernel
theorem dX3_add_61 : decode cX3_add 61 = .ok (.aload_n 0, 1) := by decide +kernel
theorem dX3_add_62 : decode cX3_add 62 = .ok (.getfield 18, 3) := by decide +kernel
theorem dX3_add_65 : decode cX3_add 65 = .ok (.aload_n 0, 1) := by decide +kernel
theorem dX3_add_66 : decode cX3_add 66 = .ok (.getfield 28, 3) := by decide +kernel
theorem dX3_add_69 : decode cX3_add 69 = .ok (.iload_n 3, 1) := by decide +kernel
theorem dX3_add_70 : decode cX3_add 70 = .ok (.iastore, 1) := by decide +kernel
theorem dX3_add_71 : decode cX3_add 71 = .ok (.aload_n 0, 1) := by decide +kernel
theorem dX3_add_72 : decode cX3_add 72 = .ok (.dup, 1) := by decide +kernel
theorem dX3_add_73 : decode cX3_add 73 = .ok (.getfield 28, 3) := by decide +kernel
theorem dX3_add_76 : decode cX3_add 76 = .ok (.iconst 1, 1) := by decide +kernel
theorem dX3_add_77 : decode cX3_add 77 = .ok (.iadd, 1) := by decide +kernel
theorem dX3_add_78 : decode cX3_add 78 = .ok (.putfield 28, 3) := by decide +kernel
theorem dX3_add_81 : decode cX3_add 81 = .ok (.aload_n 0, 1) := by decide +kernel
theorem dX3_add_82 : decode cX3_add 82 = .ok (.aload_n 0, 1) := by decide +kernel
theorem dX3_add_83 : decode cX3_add 83 = .ok (.getfield 24, 3) := by decide +kernel
theorem dX3_add_86 : decode cX3_add 86 = .ok (.iconst 1, 1) := by decide +kernel
theorem dX3_add_87 : decode cX3_add 87 = .ok (.iadd, 1) := by decide +kernel
theorem dX3_add_88 : decode cX3_add 88 = .ok (.bipush 24, 2) := by decide +kernel
theorem dX3_add_90 : decode cX3_add 90 = .ok (.invokestatic 37, 3) := by decide +kernel
theorem dX3_add_93 : decode cX3_add 93 = .ok (.putfield 24, 3) := by decide +kernel
theorem dX3_add_96 : decode cX3_add 96 = .ok (.return_, 1) := by decide +kernel
theorem dX4_init_0 : decode cX4_init 0 = .ok (.aload_n 0, 1) := by decide +kernel
theorem dX4_init_1 : decode cX4_init 1 = .ok (.invokespecial 3, 3) := by decide +kernel
theorem dX4_init_4 : decode cX4_init 4 = .ok (.aload_n 0, 1) := by decide +kernel
theorem dX4_init_5 : decode cX4_init 5 = .ok (.bipush 6, 2) := by decide +kernel
theorem dX4_init_7 : decode cX4_init 7 = .ok (.newarray .int, 2) := by decide +kernel
theorem dX4_init_9 : decode cX4_init 9 = .ok (.putfield 9, 3) := by decide +kernel
theorem dX4_init_12 : decode cX4_init 12 = .ok (.aload_n 0, 1) := by decide +kernel
theorem dX4_init_13 : decode cX4_init 13 = .ok (.bipush 6, 2) := by decide +kernel
theorem dX4_init_15 : decode cX4_init 15 = .ok (.newarray .int, 2) := by decide +kernel
theorem dX4_init_17 : decode cX4_init 17 = .ok (.putfield 15, 3) := by decide +kernel
theorem dX4_init_20 : decode cX4_init 20 = .ok (.aload_n 0, 1) := by decide +kernel
theorem dX4_init_21 : decode cX4_init 21 = .ok (.bipush 6, 2) := by decide +kernel
theorem dX4_init_23 : decode cX4_init 23 = .ok (.newarray .int, 2) := by decide +kernel
theorem dX4_init_25 : decode cX4_init 25 = .ok (.putfield 18, 3) := by decide +kernel
theorem dX4_init_28 : decode cX4_init 28 = .ok (.aload_n 0, 1) := by decide +kernel
theorem dX4_init_29 : decode cX4_init 29 = .ok (.bipush 30, 2) := by decide +kernel
theorem dX4_init_31 : decode cX4_init 31 = .ok (.newarray .int, 2) := by decide +kernel
theorem dX4_init_33 : decode cX4_init 33 = .ok (.putfield 21, 3) := by decide +kernel
theorem dX4_init_36 : decode cX4_init 36 = .ok (.aload_n 0, 1) := by decide +kernel
theorem dX4_init_37 : decode cX4_init 37 = .ok (.bipush 8, 2) := by decide +kernel
theorem dX4_init_39 : decode cX4_init 39 = .ok (.newarray .int, 2) := by decide +kernel
theorem dX4_init_41 : decode cX4_init 41 = .ok (.putfield 24, 3) := by decide +kernel
theorem dX4_init_44 : decode cX4_init 44 = .ok (.aload_n 0, 1) := by decide +kernel
theorem dX4_init_45 : decode cX4_init 45 = .ok (.bipush 8, 2) := by decide +kernel
theorem dX4_init_47 : decode cX4_init 47 = .ok (.newarray .int, 2) := by decide +kernel
theorem dX4_init_49 : decode cX4_init 49 = .ok (.putfield 27, 3) := by decide +kernel
theorem dX4_init_52 : decode cX4_init 52 = .ok (.aload_n 0, 1) := by decide +kernel
theorem dX4_init_53 : decode cX4_init 53 = .ok (.bipush 12, 2) := by decide +kernel
theorem dX4_init_55 : decode cX4_init 55 = .ok (.newarray .int, 2) := by decide +kernel
theorem dX4_init_57 : decode cX4_init 57 = .ok (.putfield 30, 3) := by decide +kernel
theorem dX4_init_60 : decode cX4_init 60 = .ok (.aload_n 0, 1) := by decide +kernel
theorem dX4_init_61 : decode cX4_init 61 = .ok (.bipush 12, 2) := by decide +kernel
theorem dX4_init_63 : decode cX4_init 63 = .ok (.newarray .int, 2) := by decide +kernel
theorem dX4_init_65 : decode cX4_init 65 = .ok (.putfield 33, 3) := by decide +kernel
theorem dX4_init_68 : decode cX4_init 68 = .ok (.aload_n 0, 1) := by decide +kernel
theorem dX4_init_69 : decode cX4_init 69 = .ok (.bipush 12, 2) := by decide +kernel
theorem dX4_init_71 : decode cX4_init 71 = .ok (.newarray .int, 2) := by decide +kernel
theorem dX4_init_73 : decode cX4_init 73 = .ok (.putfield 36, 3) := by decide +kernel
theorem dX4_init_76 : decode cX4_init 76 = .ok (.aload_n 0, 1) := by decide +kernel
theorem dX4_init_77 : decode cX4_init 77 = .ok (.invokevirtual 39, 3) := by decide +kernel
theorem dX4_init_80 : decode cX4_init 80 = .ok (.return_, 1) := by decide +kernel
theorem dX4_clear_0 : decode cX4_clear 0 = .ok (.aload_n 0, 1) := by decide +kernel
theorem dX4_clear_1 : decode cX4_clear 1 = .ok (.iconst 1, 1) := by decide +kernel
theorem dX4_clear_2 : decode cX4_clear 2 = .ok (.putfield 42, 3) := by decide +kernel
theorem dX4_clear_5 : decode cX4_clear 5 = .ok (.aload_n 0, 1) := by decide +kernel
theorem dX4_clear_6 : decode cX4_clear 6 = .ok (.iconst 1, 1) := by decide +kernel
theorem dX4_clear_7 : decode cX4_clear 7 = .ok (.putfield 46, 3) := by decide +kernel
theorem dX4_clear_10 : decode cX4_clear 10 = .ok (.aload_n 0, 1) := by decide +kernel
theorem dX4_clear_11 : decode cX4_clear 11 = .ok (.bipush 10, 2) := by decide +kernel
theorem dX4_clear_13 : decode cX4_clear 13 = .ok (.putfield 49, 3) := by decide +kernel
theorem dX4_clear_16 : decode cX4_clear 16 = .ok (.aload_n 0, 1) := by decide +kernel
theorem dX4_clear_17 : decode cX4_clear 17 = .ok (.iconst 5, 1) := by decide +kernel
theorem dX4_clear_18 : decode cX4_clear 18 = .ok (.putfield 52, 3) := by decide +kernel
theorem dX4_clear_21 : decode cX4_clear 21 = .ok (.aload_n 0, 1) := by decide +kernel
theorem dX4_clear_22 : decode cX4_clear 22 = .ok (.iconst 0, 1) := by decide +kernel
theorem dX4_clear_23 : decode cX4_clear 23 = .ok (.putfield 55, 3) := by decide +kernel
theorem dX4_clear_26 : decode cX4_clear 26 = .ok (.aload_n 0, 1) := by decide +kernel
theorem dX4_clear_27 : decode cX4_clear 27 = .ok (.iconst 0, 1) := by decide +kernel
theorem dX4_clear_28 : decode cX4_clear 28 = .ok (.putfield 58, 3) := by decide +kernel
theorem dX4_clear_31 : decode cX4_clear 31 = .ok (.aload_n 0, 1) := by decide +kernel
theorem dX4_clear_32 : decode cX4_clear 32 = .ok (.iconst 0, 1) := by decide +kernel
theorem dX4_clear_33 : decode cX4_clear 33 = .ok (.putfield 61, 3) := by decide +kernel
theorem dX4_clear_36 : decode cX4_clear 36 = .ok (.return_, 1) := by decide +kernel
theorem dX5_init_0 : decode cX5_init 0 = .ok (.aload_n 0, 1) := by decide +kernel
theorem dX5_init_1 : decode cX5_init 1 = .ok (.invokespecial 3, 3) := by decide +kernel
theorem dX5_init_4 : decode cX5_init 4 = .ok (.aload_n 0, 1) := by decide +kernel
theorem dX5_init_5 : decode cX5_init 5 = .ok (.sipush 600, 3) := by decide +kernel
theorem dX5_init_8 : decode cX5_init 8 = .ok (.newarray .byte, 2) := by decide +kernel
theorem dX5_init_10 : decode cX5_init 10 = .ok (.putfield 9, 3) := by decide +kernel
theorem dX5_init_13 : decode cX5_init 13 = .ok (.aload_n 0, 1) := by decide +kernel
theorem dX5_init_14 : decode cX5_init 14 = .ok (.new 15, 3) := by decide +kernel
theorem dX5_init_17 : decode cX5_init 17 = .ok (.dup, 1) := by decide +kernel
theorem dX5_init_18 : decode cX5_init 18 = .ok (.invokespecial 17, 3) := by decide +kernel
theorem dX5_init_21 : decode cX5_init 21 = .ok (.putfield 18, 3) := by decide +kernel
theorem dX5_init_24 : decode cX5_init 24 = .ok (.aload_n 0, 1) := by decide +kernel
theorem dX5_init_25 : decode cX5_init 25 = .ok (.bipush 6, 2) := by decide +kernel
theorem dX5_init_27 : decode cX5_init 27 = .ok (.newarray .long, 2) := by decide +kernel
theorem dX5_init_29 : decode cX5_init 29 = .ok (.putfield 22, 3) := by decide +kernel
theorem dX5_init_32 : decode cX5_init 32 = .ok (.aload_n 0, 1) := by decide +kernel
theorem dX5_init_33 : decode cX5_init 33 = .ok (.bipush 8, 2) := by decide +kernel
theorem dX5_init_35 : decode cX5_init 35 = .ok (.newarray .long, 2) := by decide +kernel
theorem dX5_init_37 : decode cX5_init 37 = .ok (.putfield 26, 3) := by decide +kernel
theorem dX5_init_40 : decode cX5_init 40 = .ok (.aload_n 0, 1) := by decide +kernel
theorem dX5_init_41 : decode cX5_init 41 = .ok (.bipush 12, 2) := by decide +kernel
theorem dX5_init_43 : decode cX5_init 43 = .ok (.newarray .long, 2) := by decide +kernel
theorem dX5_init_45 : decode cX5_init 45 = .ok (.putfield 29, 3) := by decide +kernel
theorem dX5_init_48 : decode cX5_init 48 = .ok (.return_, 1) := by decide +kernel
theorem dX5_hasRoomFor_0 : decode cX5_hasRoomFor 0 = .ok (.aload_n 0, 1) := by decide +kernel
theorem dX5_hasRoomFor_1 : decode cX5_hasRoomFor 1 = .ok (.getfield 32, 3) := by decide +kernel
theorem dX5_hasRoomFor_4 : decode cX5_hasRoomFor 4 = .ok (.iload_n 1, 1) := by decide +kernel
theorem dX5_hasRoomFor_5 : decode cX5_hasRoomFor 5 = .ok (.iadd, 1) := by decide +kernel
theorem dX5_hasRoomFor_6 : decode cX5_hasRoomFor 6 = .ok (.sipush 600, 3) := by decide +kernel
theorem dX5_hasRoomFor_9 : decode cX5_hasRoomFor 9 = .ok (.if_icmp .gt 7, 3) := by decide +kernel
theorem dX5_hasRoomFor_12 : decode cX5_hasRoomFor 12 = .ok (.iconst 1, 1) := by decide +kernel
theorem dX5_hasRoomFor_13 : decode cX5_hasRoomFor 13 = .ok (.goto 4, 3) := by decide +kernel
theorem dX5_hasRoomFor_16 : decode cX5_hasRoomFor 16 = .ok (.iconst 0, 1) := by decide +kernel
theorem dX5_hasRoomFor_17 : decode cX5_hasRoomFor 17 = .ok (.ireturn, 1) := by decide +kernel
theorem dX5_addBytesOf_0 : decode cX5_addBytesOf 0 = .ok (.bipush 24, 2) := by decide +kernel
theorem dX5_addBytesOf_2 : decode cX5_addBytesOf 2 = .ok (.istore_n 2, 1) := by decide +kernel
theorem dX5_addBytesOf_3 : decode cX5_addBytesOf 3 = .ok (.iload_n 2, 1) := by decide +kernel
theorem dX5_addBytesOf_4 : decode cX5_addBytesOf 4 = .ok (.ifCond .lt 42, 3) := by decide +kernel
theorem dX5_addBytesOf_7 : decode cX5_addBytesOf 7 = .ok (.aload_n 0, 1) := by decide +kernel
theorem dX5_addBytesOf_8 : decode cX5_addBytesOf 8 = .ok (.getfield 32, 3) := by decide +kernel
theorem dX5_addBytesOf_11 : decode cX5_addBytesOf 11 = .ok (.sipush 600, 3) := by decide +kernel
theorem dX5_addBytesOf_14 : decode cX5_addBytesOf 14 = .ok (.if_icmp .ge 26, 3) := by decide +kernel
theorem dX5_addBytesOf_17 : decode cX5_addBytesOf 17 = .ok (.aload_n 0, 1) := by decide +kernel
theorem dX5_addBytesOf_18 : decode cX5_addBytesOf 18 = .ok (.getfield 9, 3) := by decide +kernel
theorem dX5_addBytesOf_21 : decode cX5_addBytesOf 21 = .ok (.aload_n 0, 1) := by decide +kernel
theorem dX5_addBytesOf_22 : decode cX5_addBytesOf 22 = .ok (.getfield 32, 3) := by decide +kernel
theorem dX5_addBytesOf_25 : decode cX5_addBytesOf 25 = .ok (.iload_n 1, 1) := by decide +kernel
theorem dX5_addBytesOf_26 : decode cX5_addBytesOf 26 = .ok (.iload_n 2, 1) := by decide +kernel
theorem dX5_addBytesOf_27 : decode cX5_addBytesOf 27 = .ok (.iushr, 1) := by decide +kernel
theorem dX5_addBytesOf_28 : decode cX5_addBytesOf 28 = .ok (.i2b, 1) := by decide +kernel
theorem dX5_addBytesOf_29 : decode cX5_addBytesOf 29 = .ok (.bastore, 1) := by decide +kernel
theorem dX5_addBytesOf_30 : decode cX5_addBytesOf 30 = .ok (.aload_n 0, 1) := by decide +kernel
theorem dX5_addBytesOf_31 : decode cX5_addBytesOf 31 = .ok (.dup, 1) := by decide +kernel
theorem dX5_addBytesOf_32 : decode cX5_addBytesOf 32 = .ok (.getfield 32, 3) := by decide +kernel
theorem dX5_addBytesOf_35 : decode cX5_addBytesOf 35 = .ok (.iconst 1, 1) := by decide +kernel
theorem dX5_addBytesOf_36 : decode cX5_addBytesOf 36 = .ok (.iadd, 1) := by decide +kernel
theorem dX5_addBytesOf_37 : decode cX5_addBytesOf 37 = .ok (.putfield 32, 3) := by decide +kernel
theorem dX5_addBytesOf_40 : decode cX5_addBytesOf 40 = .ok (.iinc 2 (-8), 3) := by decide +kernel
theorem dX5_addBytesOf_43 : decode cX5_addBytesOf 43 = .ok (.goto (-40), 3) := by decide +kernel
theorem dX5_addBytesOf_46 : decode cX5_addBytesOf 46 = .ok (.return_, 1) := by decide +kernel
theorem dX5_exchangePlan_0 : decode cX5_exchangePlan 0 = .ok (.aload_n 0, 1) := by decide +kernel
theorem dX5_exchangePlan_1 : decode cX5_exchangePlan 1 = .ok (.getfield 18, 3) := by decide +kernel
theorem dX5_exchangePlan_4 : decode cX5_exchangePlan 4 = .ok (.astore_n 2, 1) := by decide +kernel
theorem dX5_exchangePlan_5 : decode cX5_exchangePlan 5 = .ok (.aload_n 0, 1) := by decide +kernel
theorem dX5_exchangePlan_6 : decode cX5_exchangePlan 6 = .ok (.aload_n 1, 1) := by decide +kernel
theorem dX5_exchangePlan_7 : decode cX5_exchangePlan 7 = .ok (.putfield 18, 3) := by decide +kernel
theorem dX5_exchangePlan_10 : decode cX5_exchangePlan 10 = .ok (.aload_n 2, 1) := by decide +kernel
theorem dX5_exchangePlan_11 : decode cX5_exchangePlan 11 = .ok (.areturn, 1) := by decide +kernel
theorem dX5_faultAnswer_0 : decode cX5_faultAnswer 0 = .ok (.bipush (-2), 2) := by decide +kernel
theorem dX5_faultAnswer_2 : decode cX5_faultAnswer 2 = .ok (.bipush 8, 2) := by decide +kernel
theorem dX5_faultAnswer_4 : decode cX5_faultAnswer 4 = .ok (.aload_n 0, 1) := by decide +kernel
theorem dX5_faultAnswer_5 : decode cX5_faultAnswer 5 = .ok (.getfield 36, 3) := by decide +kernel
theorem dX5_faultAnswer_8 : decode cX5_faultAnswer 8 = .ok (.imul, 1) := by decide +kernel
theorem dX5_faultAnswer_9 : decode cX5_faultAnswer 9 = .ok (.aload_n 0, 1) := by decide +kernel
theorem dX5_faultAnswer_10 : decode cX5_faultAnswer 10 = .ok (.getfield 39, 3) := by decide +kernel
theorem dX5_faultAnswer_13 : decode cX5_faultAnswer 13 = .ok (.iadd, 1) := by decide +kernel
theorem dX5_faultAnswer_14 : decode cX5_faultAnswer 14 = .ok (.isub, 1) := by decide +kernel
theorem dX5_faultAnswer_15 : decode cX5_faultAnswer 15 = .ok (.ireturn, 1) := by decide +kernel
theorem dX5_read_0 : decode cX5_read 0 = .ok (.aload_n 0, 1) := by decide +kernel
theorem dX5_read_1 : decode cX5_read 1 = .ok (.iconst 0, 1) := by decide +kernel
theorem dX5_read_2 : decode cX5_read 2 = .ok (.iload_n 1, 1) := by decide +kernel
theorem dX5_read_3 : decode cX5_read 3 = .ok (.aload_n 0, 1) := by decide +kernel
theorem dX5_read_4 : decode cX5_read 4 = .ok (.getfield 32, 3) := by decide +kernel
theorem dX5_read_7 : decode cX5_read 7 = .ok (.invokestatic 42, 3) := by decide +kernel
theorem dX5_read_10 : decode cX5_read 10 = .ok (.invokestatic 48, 3) := by decide +kernel
theorem dX5_read_13 : decode cX5_read 13 = .ok (.putfield 51, 3) := by decide +kernel
theorem dX5_read_16 : decode cX5_read 16 = .ok (.aload_n 0, 1) := by decide +kernel
theorem dX5_read_17 : decode cX5_read 17 = .ok (.iconst 0, 1) := by decide +kernel
theorem dX5_read_18 : decode cX5_read 18 = .ok (.putfield 54, 3) := by decide +kernel
theorem dX5_read_21 : decode cX5_read 21 = .ok (.aload_n 0, 1) := by decide +kernel
theorem dX5_read_22 : decode cX5_read 22 = .ok (.iconst 0, 1) := by decide +kernel
theorem dX5_read_23 : decode cX5_read 23 = .ok (.putfield 57, 3) := by decide +kernel
theorem dX5_read_26 : decode cX5_read 26 = .ok (.aload_n 0, 1) := by decide +kernel
theorem dX5_read_27 : decode cX5_read 27 = .ok (.getfield 18, 3) := by decide +kernel
theorem dX5_read_30 : decode cX5_read 30 = .ok (.invokevirtual 61, 3) := by decide +kernel
theorem dX5_read_33 : decode cX5_read 33 = .ok (.aload_n 0, 1) := by decide +kernel
theorem dX5_read_34 : decode cX5_read 34 = .ok (.invokevirtual 64, 3) := by decide +kernel
theorem dX5_read_37 : decode cX5_read 37 = .ok (.aload_n 0, 1) := by decide +kernel
theorem dX5_read_38 : decode cX5_read 38 = .ok (.invokevirtual 67, 3) := by decide +kernel
theorem dX5_read_41 : decode cX5_read 41 = .ok (.ifCond .ne 5, 3) := by decide +kernel
theorem dX5_read_44 : decode cX5_read 44 = .ok (.iconst 0, 1) := by decide +kernel
theorem dX5_read_45 : decode cX5_read 45 = .ok (.ireturn, 1) := by decide +kernel
theorem dX5_read_46 : decode cX5_read 46 = .ok (.iconst 0, 1) := by decide +kernel
theorem dX5_read_47 : decode cX5_read 47 = .ok (.istore_n 2, 1) := by decide +kernel
theorem dX5_read_48 : decode cX5_read 48 = .ok (.iload_n 2, 1) := by decide +kernel
theorem dX5_read_49 : decode cX5_read 49 = .ok (.sipush 600, 3) := by decide +kernel
theorem dX5_read_52 : decode cX5_read 52 = .ok (.if_icmp .gt 27, 3) := by decide +kernel
theorem dX5_read_55 : decode cX5_read 55 = .ok (.aload_n 0, 1) := by decide +kernel
theorem dX5_read_56 : decode cX5_read 56 = .ok (.getfield 71, 3) := by decide +kernel
theorem dX5_read_59 : decode cX5_read 59 = .ok (.ifCond .ne 5, 3) := by decide +kernel
theorem dX5_read_62 : decode cX5_read 62 = .ok (.iconst 1, 1) := by decide +kernel
theorem dX5_read_63 : decode cX5_read 63 = .ok (.ireturn, 1) := by decide +kernel
theorem dX5_read_64 : decode cX5_read 64 = .ok (.aload_n 0, 1) := by decide +kernel
theorem dX5_read_65 : decode cX5_read 65 = .ok (.invokevirtual 74, 3) := by decide +kernel
theorem dX5_read_68 : decode cX5_read 68 = .ok (.ifCond .ne 5, 3) := by decide +kernel
theorem dX5_read_71 : decode cX5_read 71 = .ok (.iconst 0, 1) := by decide +kernel
theorem dX5_read_72 : decode cX5_read 72 = .ok (.ireturn, 1) := by decide +kernel
theorem dX5_read_73 : decode cX5_read 73 = .ok (.iinc 2 1, 3) := by decide +kernel
theorem dX5_read_76 : decode cX5_read 76 = .ok (.goto (-28), 3) := by decide +kernel
theorem dX5_read_79 : decode cX5_read 79 = .ok (.aload_n 0, 1) := by decide +kernel
theorem dX5_read_80 : decode cX5_read 80 = .ok (.iconst 1, 1) := by decide +kernel
theorem dX5_read_81 : decode cX5_read 81 = .ok (.invokevirtual 77, 3) := by decide +kernel
theorem dX5_read_84 : decode cX5_read 84 = .ok (.ireturn, 1) := by decide +kernel
theorem dX5_readHeader_0 : decode cX5_readHeader 0 = .ok (.aload_n 0, 1) := by decide +kernel
theorem dX5_readHeader_1 : decode cX5_readHeader 1 = .ok (.ldc 81, 2) := by decide +kernel
theorem dX5_readHeader_3 : decode cX5_readHeader 3 = .ok (.invokevirtual 83, 3) := by decide +kernel
theorem dX5_readHeader_6 : decode cX5_readHeader 6 = .ok (.ifCond .ne 9, 3) := by decide +kernel
theorem dX5_readHeader_9 : decode cX5_readHeader 9 = .ok (.aload_n 0, 1) := by decide +kernel
theorem dX5_readHeader_10 : decode cX5_readHeader 10 = .ok (.iconst 1, 1) := by decide +kernel
theorem dX5_readHeader_11 : decode cX5_readHeader 11 = .ok (.invokevirtual 77, 3) := by decide +kernel
theorem dX5_readHeader_14 : decode cX5_readHeader 14 = .ok (.ireturn, 1) := by decide +kernel
theorem dX5_readHeader_15 : decode cX5_readHeader 15 = .ok (.aload_n 0, 1) := by decide +kernel
theorem dX5_readHeader_16 : decode cX5_readHeader 16 = .ok (.invokevirtual 64, 3) := by decide +kernel
theorem dX5_readHeader_19 : decode cX5_readHeader 19 = .ok (.aload_n 0, 1) := by decide +kernel
theorem dX5_readHeader_20 : decode cX5_readHeader 20 = .ok (.iconst 1, 1) := by decide +kernel
theorem dX5_readHeader_21 : decode cX5_readHeader 21 = .ok (.sipush 999, 3) := by decide +kernel
theorem dX5_readHeader_24 : decode cX5_readHeader 24 = .ok (.invokevirtual 87, 3) := by decide +kernel
theorem dX5_readHeader_27 : decode cX5_readHeader 27 = .ok (.ifCond .ne 5, 3) := by decide +kernel
theorem dX5_readHeader_30 : decode cX5_readHeader 30 = .ok (.iconst 0, 1) := by decide +kernel
theorem dX5_readHeader_31 : decode cX5_readHeader 31 = .ok (.ireturn, 1) := by decide +kernel
theorem dX5_readHeader_32 : decode cX5_readHeader 32 = .ok (.aload_n 0, 1) := by decide +kernel
theorem dX5_readHeader_33 : decode cX5_readHeader 33 = .ok (.getfield 18, 3) := by decide +kernel
theorem dX5_readHeader_36 : decode cX5_readHeader 36 = .ok (.aload_n 0, 1) := by decide +kernel
theorem dX5_readHeader_37 : decode cX5_readHeader 37 = .ok (.getfield 91, 3) := by decide +kernel
theorem dX5_readHeader_40 : decode cX5_readHeader 40 = .ok (.l2i, 1) := by decide +kernel
theorem dX5_readHeader_41 : decode cX5_readHeader 41 = .ok (.putfield 95, 3) := by decide +kernel
theorem dX5_readHeader_44 : decode cX5_readHeader 44 = .ok (.aload_n 0, 1) := by decide +kernel
theorem dX5_readHeader_45 : decode cX5_readHeader 45 = .ok (.invokevirtual 64, 3) := by decide +kernel
theorem dX5_readHeader_48 : decode cX5_readHeader 48 = .ok (.aload_n 0, 1) := by decide +kernel
theorem dX5_readHeader_49 : decode cX5_readHeader 49 = .ok (.iconst 1, 1) := by decide +kernel
theorem dX5_readHeader_50 : decode cX5_readHeader 50 = .ok (.bipush 8, 2) := by decide +kernel
theorem dX5_readHeader_52 : decode cX5_readHeader 52 = .ok (.invokevirtual 87, 3) := by decide +kernel
theorem dX5_readHeader_55 : decode cX5_readHeader 55 = .ok (.ifCond .ne 5, 3) := by decide +kernel
theorem dX5_readHeader_58 : decode cX5_readHeader 58 = .ok (.iconst 0, 1) := by decide +kernel
theorem dX5_readHeader_59 : decode cX5_readHeader 59 = .ok (.ireturn, 1) := by decide +kernel
theorem dX5_readHeader_60 : decode cX5_readHeader 60 = .ok (.aload_n 0, 1) := by decide +kernel
theorem dX5_readHeader_61 : decode cX5_readHeader 61 = .ok (.getfield 18, 3) := by decide +kernel
theorem dX5_readHeader_64 : decode cX5_readHeader 64 = .ok (.aload_n 0, 1) := by decide +kernel
theorem dX5_readHeader_65 : decode cX5_readHeader 65 = .ok (.getfield 91, 3) := by decide +kernel
theorem dX5_readHeader_68 : decode cX5_readHeader 68 = .ok (.l2i, 1) := by decide +kernel
theorem dX5_readHeader_69 : decode cX5_readHeader 69 = .ok (.putfield 98, 3) := by decide +kernel
theorem dX5_readHeader_72 : decode cX5_readHeader 72 = .ok (.aload_n 0, 1) := by decide +kernel
theorem dX5_readHeader_73 : decode cX5_readHeader 73 = .ok (.invokevirtual 64, 3) := by decide +kernel
theorem dX5_readHeader_76 : decode cX5_readHeader 76 = .ok (.aload_n 0, 1) := by decide +kernel
theorem dX5_readHeader_77 : decode cX5_readHeader 77 = .ok (.invokevirtual 101, 3) := by decide +kernel
theorem dX5_readHeader_80 : decode cX5_readHeader 80 = .ok (.ireturn, 1) := by decide +kernel
theorem dX5_readStatement_0 : decode cX5_readStatement 0 = .ok (.aload_n 0, 1) := by decide +kernel
theorem dX5_readStatement_1 : decode cX5_readStatement 1 = .ok (.ldc 104, 2) := by decide +kernel
theorem dX5_readStatement_3 : decode cX5_readStatement 3 = .ok (.invokevirtual 83, 3) := by decide +kernel
theorem dX5_readStatement_6 : decode cX5_readStatement 6 = .ok (.ifCond .eq 23, 3) := by decide +kernel
theorem dX5_readStatement_9 : decode cX5_readStatement 9 = .ok (.aload_n 0, 1) := by decide +kernel
theorem dX5_readStatement_10 : decode cX5_readStatement 10 = .ok (.invokevirtual 106, 3) := by decide +kernel
theorem dX5_readStatement_13 : decode cX5_readStatement 13 = .ok (.ifCond .eq 14, 3) := by decide +kernel
theorem dX5_readStatement_16 : decode cX5_readStatement 16 = .ok (.aload_n 0, 1) := by decide +kernel
theorem dX5_readStatement_17 : decode cX5_readStatement 17 = .ok (.invokevirtual 101, 3) := by decide +kernel
theorem dX5_readStatement_20 : decode cX5_readStatement 20 = .ok (.ifCond .eq 7, 3) := by decide +kernel
theorem dX5_readStatement_23 : decode cX5_readStatement 23 = .ok (.iconst 1, 1) := by decide +kernel
theorem dX5_readStatement_24 : decode cX5_readStatement 24 = .ok (.goto 4, 3) := by decide +kernel
theorem dX5_readStatement_27 : decode cX5_readStatement 27 = .ok (.iconst 0, 1) := by decide +kernel
theorem dX5_readStatement_28 : decode cX5_readStatement 28 = .ok (.ireturn, 1) := by decide +kernel
theorem dX5_readStatement_29 : decode cX5_readStatement 29 = .ok (.aload_n 0, 1) := by decide +kernel
theorem dX5_readStatement_30 : decode cX5_readStatement 30 = .ok (.ldc 109, 2) := by decide +kernel
theorem dX5_readStatement_32 : decode cX5_readStatement 32 = .ok (.invokevirtual 83, 3) := by decide +kernel
theorem dX5_readStatement_35 : decode cX5_readStatement 35 = .ok (.ifCond .eq 23, 3) := by decide +kernel
theorem dX5_readStatement_38 : decode cX5_readStatement 38 = .ok (.aload_n 0, 1) := by decide +kernel
theorem dX5_readStatement_39 : decode cX5_readStatement 39 = .ok (.invokevirtual 111, 3) := by decide +kernel
theorem dX5_readStatement_42 : decode cX5_readStatement 42 = .ok (.ifCond .eq 14, 3) := by decide +kernel
theorem dX5_readStatement_45 : decode cX5_readStatement 45 = .ok (.aload_n 0, 1) := by decide +kernel
theorem dX5_readStatement_46 : decode cX5_readStatement 46 = .ok (.invokevirtual 101, 3) := by decide +kernel
theorem dX5_readStatement_49 : decode cX5_readStatement 49 = .ok (.ifCond .eq 7, 3) := by decide +kernel
theorem dX5_readStatement_52 : decode cX5_readStatement 52 = .ok (.iconst 1, 1) := by decide +kernel
theorem dX5_readStatement_53 : decode cX5_readStatement 53 = .ok (.goto 4, 3) := by decide +kernel
theorem dX5_readStatement_56 : decode cX5_readStatement 56 = .ok (.iconst 0, 1) := by decide +kernel
theorem dX5_readStatement_57 : decode cX5_readStatement 57 = .ok (.ireturn, 1) := by decide +kernel
theorem dX5_readStatement_58 : decode cX5_readStatement 58 = .ok (.aload_n 0, 1) := by decide +kernel
theorem dX5_readStatement_59 : decode cX5_readStatement 59 = .ok (.ldc 114, 2) := by decide +kernel
theorem dX5_readStatement_61 : decode cX5_readStatement 61 = .ok (.invokevirtual 83, 3) := by decide +kernel
theorem dX5_readStatement_64 : decode cX5_readStatement 64 = .ok (.ifCond .eq 23, 3) := by decide +kernel
theorem dX5_readStatement_67 : decode cX5_readStatement 67 = .ok (.aload_n 0, 1) := by decide +kernel
theorem dX5_readStatement_68 : decode cX5_readStatement 68 = .ok (.invokevirtual 116, 3) := by decide +kernel
theorem dX5_readStatement_71 : decode cX5_readStatement 71 = .ok (.ifCond .eq 14, 3) := by decide +kernel
theorem dX5_readStatement_74 : decode cX5_readStatement 74 = .ok (.aload_n 0, 1) := by decide +kernel
theorem dX5_readStatement_75 : decode cX5_readStatement 75 = .ok (.invokevirtual 101, 3) := by decide +kernel
theorem dX5_readStatement_78 : decode cX5_readStatement 78 = .ok (.ifCond .eq 7, 3) := by decide +kernel
theorem dX5_readStatement_81 : decode cX5_readStatement 81 = .ok (.iconst 1, 1) := by decide +kernel
theorem dX5_readStatement_82 : decode cX5_readStatement 82 = .ok (.goto 4, 3) := by decide +kernel
theorem dX5_readStatement_85 : decode cX5_readStatement 85 = .ok (.iconst 0, 1) := by decide +kernel
theorem dX5_readStatement_86 : decode cX5_readStatement 86 = .ok (.ireturn, 1) := by decide +kernel
theorem dX5_readStatement_87 : decode cX5_readStatement 87 = .ok (.aload_n 0, 1) := by decide +kernel
theorem dX5_readStatement_88 : decode cX5_readStatement 88 = .ok (.ldc 119, 2) := by decide +kernel
theorem dX5_readStatement_90 : decode cX5_readStatement 90 = .ok (.invokevirtual 83, 3) := by decide +kernel
theorem dX5_readStatement_93 : decode cX5_readStatement 93 = .ok (.ifCond .eq 23, 3) := by decide +kernel
theorem dX5_readStatement_96 : decode cX5_readStatement 96 = .ok (.aload_n 0, 1) := by decide +kernel
theorem dX5_readStatement_97 : decode cX5_readStatement 97 = .ok (.invokevirtual 121, 3) := by decide +kernel
theorem dX5_readStatement_100 : decode cX5_readStatement 100 = .ok (.ifCond .eq 14, 3) := by decide +kernel
theorem dX5_readStatement_103 : decode cX5_readStatement 103 = .ok (.aload_n 0, 1) := by decide +kernel
theorem dX5_readStatement_104 : decode cX5_readStatement 104 = .ok (.invokevirtual 101, 3) := by decide +kernel
theorem dX5_readStatement_107 : decode cX5_readStatement 107 = .ok (.ifCond .eq 7, 3) := by decide +kernel
theorem dX5_readStatement_110 : decode cX5_readStatement 110 = .ok (.iconst 1, 1) := by decide +kernel
theorem dX5_readStatement_111 : decode cX5_readStatement 111 = .ok (.goto 4, 3) := by decide +kernel
theorem dX5_readStatement_114 : decode cX5_readStatement 114 = .ok (.iconst 0, 1) := by decide +kernel
theorem dX5_readStatement_115 : decode cX5_readStatement 115 = .ok (.ireturn, 1) := by decide +kernel
theorem dX5_readStatement_116 : decode cX5_readStatement 116 = .ok (.aload_n 0, 1) := by decide +kernel
theorem dX5_readStatement_117 : decode cX5_readStatement 117 = .ok (.iconst 1, 1) := by decide +kernel
theorem dX5_readStatement_118 : decode cX5_readStatement 118 = .ok (.invokevirtual 77, 3) := by decide +kernel
theorem dX5_readStatement_121 : decode cX5_readStatement 121 = .ok (.ireturn, 1) := by decide +kernel
theorem dX5_readPattern_0 : decode cX5_readPattern 0 = .ok (.aload_n 0, 1) := by decide +kernel
theorem dX5_readPattern_1 : decode cX5_readPattern 1 = .ok (.getfield 18, 3) := by decide +kernel
theorem dX5_readPattern_4 : decode cX5_readPattern 4 = .ok (.getfield 124, 3) := by decide +kernel
theorem dX5_readPattern_7 : decode cX5_readPattern 7 = .ok (.istore_n 1, 1) := by decide +kernel
theorem dX5_readPattern_8 : decode cX5_readPattern 8 = .ok (.iload_n 1, 1) := by decide +kernel
theorem dX5_readPattern_9 : decode cX5_readPattern 9 = .ok (.bipush 6, 2) := by decide +kernel
theorem dX5_readPattern_11 : decode cX5_readPattern 11 = .ok (.if_icmp .lt 9, 3) := by decide +kernel
theorem dX5_readPattern_14 : decode cX5_readPattern 14 = .ok (.aload_n 0, 1) := by decide +kernel
theorem dX5_readPattern_15 : decode cX5_readPattern 15 = .ok (.iconst 5, 1) := by decide +kernel
theorem dX5_readPattern_16 : decode cX5_readPattern 16 = .ok (.invokevirtual 77, 3) := by decide +kernel
theorem dX5_readPattern_19 : decode cX5_readPattern 19 = .ok (.ireturn, 1) := by decide +kernel
theorem dX5_readPattern_20 : decode cX5_readPattern 20 = .ok (.aload_n 0, 1) := by decide +kernel
theorem dX5_readPattern_21 : decode cX5_readPattern 21 = .ok (.invokevirtual 64, 3) := by decide +kernel
theorem dX5_readPattern_24 : decode cX5_readPattern 24 = .ok (.aload_n 0, 1) := by decide +kernel
theorem dX5_readPattern_25 : decode cX5_readPattern 25 = .ok (.aload_n 0, 1) := by decide +kernel
theorem dX5_readPattern_26 : decode cX5_readPattern 26 = .ok (.getfield 22, 3) := by decide +kernel
theorem dX5_readPattern_29 : decode cX5_readPattern 29 = .ok (.iload_n 1, 1) := by decide +kernel
theorem dX5_readPattern_30 : decode cX5_readPattern 30 = .ok (.invokevirtual 127, 3) := by decide +kernel
theorem dX5_readPattern_33 : decode cX5_readPattern 33 = .ok (.ifCond .ne 5, 3) := by decide +kernel
theorem dX5_readPattern_36 : decode cX5_readPattern 36 = .ok (.iconst 0, 1) := by decide +kernel
theorem dX5_readPattern_37 : decode cX5_readPattern 37 = .ok (.ireturn, 1) := by decide +kernel
theorem dX5_readPattern_38 : decode cX5_readPattern 38 = .ok (.aload_n 0, 1) := by decide +kernel
theorem dX5_readPattern_39 : decode cX5_readPattern 39 = .ok (.iconst 1, 1) := by decide +kernel
theorem dX5_readPattern_40 : decode cX5_readPattern 40 = .ok (.bipush 99, 2) := by decide +kernel
theorem dX5_readPattern_42 : decode cX5_readPattern 42 = .ok (.invokevirtual 87, 3) := by decide +kernel
theorem dX5_readPattern_45 : decode cX5_readPattern 45 = .ok (.ifCond .ne 5, 3) := by decide +kernel
theorem dX5_readPattern_48 : decode cX5_readPattern 48 = .ok (.iconst 0, 1) := by decide +kernel
theorem dX5_readPattern_49 : decode cX5_readPattern 49 = .ok (.ireturn, 1) := by decide +kernel
theorem dX5_readPattern_50 : decode cX5_readPattern 50 = .ok (.aload_n 0, 1) := by decide +kernel
theorem dX5_readPattern_51 : decode cX5_readPattern 51 = .ok (.getfield 18, 3) := by decide +kernel
theorem dX5_readPattern_54 : decode cX5_readPattern 54 = .ok (.getfield 131, 3) := by decide +kernel
theorem dX5_readPattern_57 : decode cX5_readPattern 57 = .ok (.iload_n 1, 1) := by decide +kernel
theorem dX5_readPattern_58 : decode cX5_readPattern 58 = .ok (.aload_n 0, 1) := by decide +kernel
theorem dX5_readPattern_59 : decode cX5_readPattern 59 = .ok (.getfield 91, 3) := by decide +kernel
theorem dX5_readPattern_62 : decode cX5_readPattern 62 = .ok (.l2i, 1) := by decide +kernel
theorem dX5_readPattern_63 : decode cX5_readPattern 63 = .ok (.iastore, 1) := by decide +kernel
theorem dX5_readPattern_64 : decode cX5_readPattern 64 = .ok (.aload_n 0, 1) := by decide +kernel
theorem dX5_readPattern_65 : decode cX5_readPattern 65 = .ok (.invokevirtual 64, 3) := by decide +kernel
theorem dX5_readPattern_68 : decode cX5_readPattern 68 = .ok (.aload_n 0, 1) := by decide +kernel
theorem dX5_readPattern_69 : decode cX5_readPattern 69 = .ok (.iconst 1, 1) := by decide +kernel
theorem dX5_readPattern_70 : decode cX5_readPattern 70 = .ok (.sipush 200, 3) := by decide +kernel
theorem dX5_readPattern_73 : decode cX5_readPattern 73 = .ok (.invokevirtual 87, 3) := by decide +kernel
theorem dX5_readPattern_76 : decode cX5_readPattern 76 = .ok (.ifCond .ne 5, 3) := by decide +kernel
theorem dX5_readPattern_79 : decode cX5_readPattern 79 = .ok (.iconst 0, 1) := by decide +kernel
theorem dX5_readPattern_80 : decode cX5_readPattern 80 = .ok (.ireturn, 1) := by decide +kernel
theorem dX5_readPattern_81 : decode cX5_readPattern 81 = .ok (.aload_n 0, 1) := by decide +kernel
theorem dX5_readPattern_82 : decode cX5_readPattern 82 = .ok (.getfield 18, 3) := by decide +kernel
theorem dX5_readPattern_85 : decode cX5_readPattern 85 = .ok (.getfield 135, 3) := by decide +kernel
theorem dX5_readPattern_88 : decode cX5_readPattern 88 = .ok (.iload_n 1, 1) := by decide +kernel
theorem dX5_readPattern_89 : decode cX5_readPattern 89 = .ok (.aload_n 0, 1) := by decide +kernel
theorem dX5_readPattern_90 : decode cX5_readPattern 90 = .ok (.getfield 91, 3) := by decide +kernel
theorem dX5_readPattern_93 : decode cX5_readPattern 93 = .ok (.l2i, 1) := by decide +kernel
theorem dX5_readPattern_94 : decode cX5_readPattern 94 = .ok (.iastore, 1) := by decide +kernel
theorem dX5_readPattern_95 : decode cX5_readPattern 95 = .ok (.aload_n 0, 1) := by decide +kernel
theorem dX5_readPattern_96 : decode cX5_readPattern 96 = .ok (.invokevirtual 64, 3) := by decide +kernel
theorem dX5_readPattern_99 : decode cX5_readPattern 99 = .ok (.aload_n 0, 1) := by decide +kernel
theorem dX5_readPattern_100 : decode cX5_readPattern 100 = .ok (.getfield 18, 3) := by decide +kernel
theorem dX5_readPattern_103 : decode cX5_readPattern 103 = .ok (.iload_n 1, 1) := by decide +kernel
theorem dX5_readPattern_104 : decode cX5_readPattern 104 = .ok (.iconst 1, 1) := by decide +kernel
theorem dX5_readPattern_105 : decode cX5_readPattern 105 = .ok (.iadd, 1) := by decide +kernel
theorem dX5_readPattern_106 : decode cX5_readPattern 106 = .ok (.putfield 124, 3) := by decide +kernel
theorem dX5_readPattern_109 : decode cX5_readPattern 109 = .ok (.aload_n 0, 1) := by decide +kernel
theorem dX5_readPattern_110 : decode cX5_readPattern 110 = .ok (.iload_n 1, 1) := by decide +kernel
theorem dX5_readPattern_111 : decode cX5_readPattern 111 = .ok (.invokevirtual 138, 3) := by decide +kernel
theorem dX5_readPattern_114 : decode cX5_readPattern 114 = .ok (.ireturn, 1) := by decide +kernel
theorem dX5_readPatternErrors_0 : decode cX5_readPatternErrors 0 = .ok (.iconst 0, 1) := by decide +kernel
theorem dX5_readPatternErrors_1 : decode cX5_readPatternErrors 1 = .ok (.istore_n 2, 1) := by decide +kernel
theorem dX5_readPatternErrors_2 : decode cX5_readPatternErrors 2 = .ok (.iload_n 2, 1) := by decide +kernel
theorem dX5_readPatternErrors_3 : decode cX5_readPatternErrors 3 = .ok (.iconst 5, 1) := by decide +kernel
theorem dX5_readPatternErrors_4 : decode cX5_readPatternErrors 4 = .ok (.if_icmp .ge 38, 3) := by decide +kernel
theorem dX5_readPatternErrors_7 : decode cX5_readPatternErrors 7 = .ok (.aload_n 0, 1) := by decide +kernel
theorem dX5_readPatternErrors_8 : decode cX5_readPatternErrors 8 = .ok (.invokevirtual 141, 3) := by decide +kernel
theorem dX5_readPatternErrors_11 : decode cX5_readPatternErrors 11 = .ok (.iconst (-1), 1) := by decide +kernel
theorem dX5_readPatternErrors_12 : decode cX5_readPatternErrors 12 = .ok (.if_icmp .eq 30, 3) := by decide +kernel
theorem dX5_readPatternErrors_15 : decode cX5_readPatternErrors 15 = .ok (.aload_n 0, 1) := by decide +kernel
theorem dX5_readPatternErrors_16 : decode cX5_readPatternErrors 16 = .ok (.getfield 18, 3) := by decide +kernel
theorem dX5_readPatternErrors_19 : decode cX5_readPatternErrors 19 = .ok (.getfield 145, 3) := by decide +kernel
theorem dX5_readPatternErrors_22 : decode cX5_readPatternErrors 22 = .ok (.iload_n 1, 1) := by decide +kernel
theorem dX5_readPatternErrors_23 : decode cX5_readPatternErrors 23 = .ok (.iconst 5, 1) := by decide +kernel
theorem dX5_readPatternErrors_24 : decode cX5_readPatternErrors 24 = .ok (.imul, 1) := by decide +kernel
theorem dX5_readPatternErrors_25 : decode cX5_readPatternErrors 25 = .ok (.iload_n 2, 1) := by decide +kernel
theorem dX5_readPatternErrors_26 : decode cX5_readPatternErrors 26 = .ok (.iadd, 1) := by decide +kernel
theorem dX5_readPatternErrors_27 : decode cX5_readPatternErrors 27 = .ok (.aload_n 0, 1) := by decide +kernel
theorem dX5_readPatternErrors_28 : decode cX5_readPatternErrors 28 = .ok (.invokevirtual 141, 3) := by decide +kernel
theorem dX5_readPatternErrors_31 : decode cX5_readPatternErrors 31 = .ok (.iastore, 1) := by decide +kernel
theorem dX5_readPatternErrors_32 : decode cX5_readPatternErrors 32 = .ok (.iinc 2 1, 3) := by decide +kernel
theorem dX5_readPatternErrors_35 : decode cX5_readPatternErrors 35 = .ok (.aload_n 0, 1) := by decide +kernel
theorem dX5_readPatternErrors_36 : decode cX5_readPatternErrors 36 = .ok (.invokevirtual 64, 3) := by decide +kernel
theorem dX5_readPatternErrors_39 : decode cX5_readPatternErrors 39 = .ok (.goto (-37), 3) := by decide +kernel
theorem dX5_readPatternErrors_42 : decode cX5_readPatternErrors 42 = .ok (.aload_n 0, 1) := by decide +kernel
theorem dX5_readPatternErrors_43 : decode cX5_readPatternErrors 43 = .ok (.getfield 18, 3) := by decide +kernel
theorem dX5_readPatternErrors_46 : decode cX5_readPatternErrors 46 = .ok (.getfield 148, 3) := by decide +kernel
theorem dX5_readPatternErrors_49 : decode cX5_readPatternErrors 49 = .ok (.iload_n 1, 1) := by decide +kernel
theorem dX5_readPatternErrors_50 : decode cX5_readPatternErrors 50 = .ok (.iload_n 2, 1) := by decide +kernel
theorem dX5_readPatternErrors_51 : decode cX5_readPatternErrors 51 = .ok (.iastore, 1) := by decide +kernel
theorem dX5_readPatternErrors_52 : decode cX5_readPatternErrors 52 = .ok (.iload_n 2, 1) := by decide +kernel
theorem dX5_readPatternErrors_53 : decode cX5_readPatternErrors 53 = .ok (.ifCond .ne 9, 3) := by decide +kernel
theorem dX5_readPatternErrors_56 : decode cX5_readPatternErrors 56 = .ok (.aload_n 0, 1) := by decide +kernel
theorem dX5_readPatternErrors_57 : decode cX5_readPatternErrors 57 = .ok (.iconst 1, 1) := by decide +kernel
theorem dX5_readPatternErrors_58 : decode cX5_readPatternErrors 58 = .ok (.invokevirtual 77, 3) := by decide +kernel
theorem dX5_readPatternErrors_61 : decode cX5_readPatternErrors 61 = .ok (.ireturn, 1) := by decide +kernel
theorem dX5_readPatternErrors_62 : decode cX5_readPatternErrors 62 = .ok (.aload_n 0, 1) := by decide +kernel
theorem dX5_readPatternErrors_63 : decode cX5_readPatternErrors 63 = .ok (.invokevirtual 141, 3) := by decide +kernel
theorem dX5_readPatternErrors_66 : decode cX5_readPatternErrors 66 = .ok (.iconst (-1), 1) := by decide +kernel
theorem dX5_readPatternErrors_67 : decode cX5_readPatternErrors 67 = .ok (.if_icmp .eq 11, 3) := by decide +kernel
theorem dX5_readPatternErrors_70 : decode cX5_readPatternErrors 70 = .ok (.aload_n 0, 1) := by decide +kernel
theorem dX5_readPatternErrors_71 : decode cX5_readPatternErrors 71 = .ok (.iconst 5, 1) := by decide +kernel
theorem dX5_readPatternErrors_72 : decode cX5_readPatternErrors 72 = .ok (.invokevirtual 77, 3) := by decide +kernel
theorem dX5_readPatternErrors_75 : decode cX5_readPatternErrors 75 = .ok (.ifCond .eq 7, 3) := by decide +kernel
theorem dX5_readPatternErrors_78 : decode cX5_readPatternErrors 78 = .ok (.iconst 1, 1) := by decide +kernel
theorem dX5_readPatternErrors_79 : decode cX5_readPatternErrors 79 = .ok (.goto 4, 3) := by decide +kernel
theorem dX5_readPatternErrors_82 : decode cX5_readPatternErrors 82 = .ok (.iconst 0, 1) := by decide +kernel
theorem dX5_readPatternErrors_83 : decode cX5_readPatternErrors 83 = .ok (.ireturn, 1) := by decide +kernel
theorem dX5_readDevice_0 : decode cX5_readDevice 0 = .ok (.aload_n 0, 1) := by decide +kernel
theorem dX5_readDevice_1 : decode cX5_readDevice 1 = .ok (.getfield 18, 3) := by decide +kernel
theorem dX5_readDevice_4 : decode cX5_readDevice 4 = .ok (.getfield 151, 3) := by decide +kernel
theorem dX5_readDevice_7 : decode cX5_readDevice 7 = .ok (.istore_n 1, 1) := by decide +kernel
theorem dX5_readDevice_8 : decode cX5_readDevice 8 = .ok (.iload_n 1, 1) := by decide +kernel
theorem dX5_readDevice_9 : decode cX5_readDevice 9 = .ok (.bipush 8, 2) := by decide +kernel
theorem dX5_readDevice_11 : decode cX5_readDevice 11 = .ok (.if_icmp .lt 9, 3) := by decide +kernel
theorem dX5_readDevice_14 : decode cX5_readDevice 14 = .ok (.aload_n 0, 1) := by decide +kernel
theorem dX5_readDevice_15 : decode cX5_readDevice 15 = .ok (.iconst 5, 1) := by decide +kernel
theorem dX5_readDevice_16 : decode cX5_readDevice 16 = .ok (.invokevirtual 77, 3) := by decide +kernel
theorem dX5_readDevice_19 : decode cX5_readDevice 19 = .ok (.ireturn, 1) := by decide +kernel
theorem dX5_readDevice_20 : decode cX5_readDevice 20 = .ok (.aload_n 0, 1) := by decide +kernel
theorem dX5_readDevice_21 : decode cX5_readDevice 21 = .ok (.invokevirtual 64, 3) := by decide +kernel
theorem dX5_readDevice_24 : decode cX5_readDevice 24 = .ok (.aload_n 0, 1) := by decide +kernel
theorem dX5_readDevice_25 : decode cX5_readDevice 25 = .ok (.aload_n 0, 1) := by decide +kernel
theorem dX5_readDevice_26 : decode cX5_readDevice 26 = .ok (.getfield 26, 3) := by decide +kernel
theorem dX5_readDevice_29 : decode cX5_readDevice 29 = .ok (.iload_n 1, 1) := by decide +kernel
theorem dX5_readDevice_30 : decode cX5_readDevice 30 = .ok (.invokevirtual 127, 3) := by decide +kernel
theorem dX5_readDevice_33 : decode cX5_readDevice 33 = .ok (.ifCond .ne 5, 3) := by decide +kernel
theorem dX5_readDevice_36 : decode cX5_readDevice 36 = .ok (.iconst 0, 1) := by decide +kernel
theorem dX5_readDevice_37 : decode cX5_readDevice 37 = .ok (.ireturn, 1) := by decide +kernel
theorem dX5_readDevice_38 : decode cX5_readDevice 38 = .ok (.aload_n 0, 1) := by decide +kernel
theorem dX5_readDevice_39 : decode cX5_readDevice 39 = .ok (.iconst 0, 1) := by decide +kernel
theorem dX5_readDevice_40 : decode cX5_readDevice 40 = .ok (.aload_n 0, 1) := by decide +kernel
theorem dX5_readDevice_41 : decode cX5_readDevice 41 = .ok (.getfield 18, 3) := by decide +kernel
theorem dX5_readDevice_44 : decode cX5_readDevice 44 = .ok (.getfield 98, 3) := by decide +kernel
theorem dX5_readDevice_47 : decode cX5_readDevice 47 = .ok (.iconst 1, 1) := by decide +kernel
theorem dX5_readDevice_48 : decode cX5_readDevice 48 = .ok (.isub, 1) := by decide +kernel
theorem dX5_readDevice_49 : decode cX5_readDevice 49 = .ok (.invokevirtual 87, 3) := by decide +kernel
theorem dX5_readDevice_52 : decode cX5_readDevice 52 = .ok (.ifCond .ne 5, 3) := by decide +kernel
theorem dX5_readDevice_55 : decode cX5_readDevice 55 = .ok (.iconst 0, 1) := by decide +kernel
theorem dX5_readDevice_56 : decode cX5_readDevice 56 = .ok (.ireturn, 1) := by decide +kernel
theorem dX5_readDevice_57 : decode cX5_readDevice 57 = .ok (.aload_n 0, 1) := by decide +kernel
theorem dX5_readDevice_58 : decode cX5_readDevice 58 = .ok (.aload_n 0, 1) := by decide +kernel
theorem dX5_readDevice_59 : decode cX5_readDevice 59 = .ok (.getfield 91, 3) := by decide +kernel
theorem dX5_readDevice_62 : decode cX5_readDevice 62 = .ok (.l2i, 1) := by decide +kernel
theorem dX5_readDevice_63 : decode cX5_readDevice 63 = .ok (.invokevirtual 154, 3) := by decide +kernel
theorem dX5_readDevice_66 : decode cX5_readDevice 66 = .ok (.ifCond .eq 9, 3) := by decide +kernel
theorem dX5_readDevice_69 : decode cX5_readDevice 69 = .ok (.aload_n 0, 1) := by decide +kernel
theorem dX5_readDevice_70 : decode cX5_readDevice 70 = .ok (.iconst 3, 1) := by decide +kernel
theorem dX5_readDevice_71 : decode cX5_readDevice 71 = .ok (.invokevirtual 77, 3) := by decide +kernel
theorem dX5_readDevice_74 : decode cX5_readDevice 74 = .ok (.ireturn, 1) := by decide +kernel
theorem dX5_readDevice_75 : decode cX5_readDevice 75 = .ok (.aload_n 0, 1) := by decide +kernel
theorem dX5_readDevice_76 : decode cX5_readDevice 76 = .ok (.getfield 18, 3) := by decide +kernel
theorem dX5_readDevice_79 : decode cX5_readDevice 79 = .ok (.getfield 157, 3) := by decide +kernel
theorem dX5_readDevice_82 : decode cX5_readDevice 82 = .ok (.iload_n 1, 1) := by decide +kernel
theorem dX5_readDevice_83 : decode cX5_readDevice 83 = .ok (.aload_n 0, 1) := by decide +kernel
theorem dX5_readDevice_84 : decode cX5_readDevice 84 = .ok (.getfield 91, 3) := by decide +kernel
theorem dX5_readDevice_87 : decode cX5_readDevice 87 = .ok (.l2i, 1) := by decide +kernel
theorem dX5_readDevice_88 : decode cX5_readDevice 88 = .ok (.iastore, 1) := by decide +kernel
theorem dX5_readDevice_89 : decode cX5_readDevice 89 = .ok (.aload_n 0, 1) := by decide +kernel
theorem dX5_readDevice_90 : decode cX5_readDevice 90 = .ok (.invokevirtual 64, 3) := by decide +kernel
theorem dX5_readDevice_93 : decode cX5_readDevice 93 = .ok (.aload_n 0, 1) := by decide +kernel
theorem dX5_readDevice_94 : decode cX5_readDevice 94 = .ok (.getfield 18, 3) := by decide +kernel
theorem dX5_readDevice_97 : decode cX5_readDevice 97 = .ok (.getfield 160, 3) := by decide +kernel
theorem dX5_readDevice_100 : decode cX5_readDevice 100 = .ok (.iload_n 1, 1) := by decide +kernel
theorem dX5_readDevice_101 : decode cX5_readDevice 101 = .ok (.iconst (-1), 1) := by decide +kernel
theorem dX5_readDevice_102 : decode cX5_readDevice 102 = .ok (.iastore, 1) := by decide +kernel
theorem dX5_readDevice_103 : decode cX5_readDevice 103 = .ok (.aload_n 0, 1) := by decide +kernel
theorem dX5_readDevice_104 : decode cX5_readDevice 104 = .ok (.ldc 163, 2) := by decide +kernel
theorem dX5_readDevice_106 : decode cX5_readDevice 106 = .ok (.invokevirtual 83, 3) := by decide +kernel
theorem dX5_readDevice_109 : decode cX5_readDevice 109 = .ok (.ifCond .eq 38, 3) := by decide +kernel
theorem dX5_readDevice_112 : decode cX5_readDevice 112 = .ok (.aload_n 0, 1) := by decide +kernel
theorem dX5_readDevice_113 : decode cX5_readDevice 113 = .ok (.invokevirtual 64, 3) := by decide +kernel
theorem dX5_readDevice_116 : decode cX5_readDevice 116 = .ok (.aload_n 0, 1) := by decide +kernel
theorem dX5_readDevice_117 : decode cX5_readDevice 117 = .ok (.invokevirtual 164, 3) := by decide +kernel
theorem dX5_readDevice_120 : decode cX5_readDevice 120 = .ok (.ifCond .ne 5, 3) := by decide +kernel
theorem dX5_readDevice_123 : decode cX5_readDevice 123 = .ok (.iconst 0, 1) := by decide +kernel
theorem dX5_readDevice_124 : decode cX5_readDevice 124 = .ok (.ireturn, 1) := by decide +kernel
theorem dX5_readDevice_125 : decode cX5_readDevice 125 = .ok (.aload_n 0, 1) := by decide +kernel
theorem dX5_readDevice_126 : decode cX5_readDevice 126 = .ok (.getfield 18, 3) := by decide +kernel
theorem dX5_readDevice_129 : decode cX5_readDevice 129 = .ok (.getfield 160, 3) := by decide +kernel
theorem dX5_readDevice_132 : decode cX5_readDevice 132 = .ok (.iload_n 1, 1) := by decide +kernel
theorem dX5_readDevice_133 : decode cX5_readDevice 133 = .ok (.aload_n 0, 1) := by decide +kernel
theorem dX5_readDevice_134 : decode cX5_readDevice 134 = .ok (.aload_n 0, 1) := by decide +kernel
theorem dX5_readDevice_135 : decode cX5_readDevice 135 = .ok (.getfield 26, 3) := by decide +kernel
theorem dX5_readDevice_138 : decode cX5_readDevice 138 = .ok (.iload_n 1, 1) := by decide +kernel
theorem dX5_readDevice_139 : decode cX5_readDevice 139 = .ok (.invokevirtual 167, 3) := by decide +kernel
theorem dX5_readDevice_142 : decode cX5_readDevice 142 = .ok (.iastore, 1) := by decide +kernel
theorem dX5_readDevice_143 : decode cX5_readDevice 143 = .ok (.aload_n 0, 1) := by decide +kernel
theorem dX5_readDevice_144 : decode cX5_readDevice 144 = .ok (.invokevirtual 64, 3) := by decide +kernel
theorem dX5_readDevice_147 : decode cX5_readDevice 147 = .ok (.aload_n 0, 1) := by decide +kernel
theorem dX5_readDevice_148 : decode cX5_readDevice 148 = .ok (.getfield 18, 3) := by decide +kernel
theorem dX5_readDevice_151 : decode cX5_readDevice 151 = .ok (.iload_n 1, 1) := by decide +kernel
theorem dX5_readDevice_152 : decode cX5_readDevice 152 = .ok (.iconst 1, 1) := by decide +kernel
theorem dX5_readDevice_153 : decode cX5_readDevice 153 = .ok (.iadd, 1) := by decide +kernel
theorem dX5_readDevice_154 : decode cX5_readDevice 154 = .ok (.putfield 151, 3) := by decide +kernel
theorem dX5_readDevice_157 : decode cX5_readDevice 157 = .ok (.iconst 1, 1) := by decide +kernel
theorem dX5_readDevice_158 : decode cX5_readDevice 158 = .ok (.ireturn, 1) := by decide +kernel
theorem dX5_readStream_0 : decode cX5_readStream 0 = .ok (.aload_n 0, 1) := by decide +kernel
theorem dX5_readStream_1 : decode cX5_readStream 1 = .ok (.getfield 18, 3) := by decide +kernel
theorem dX5_readStream_4 : decode cX5_readStream 4 = .ok (.getfield 171, 3) := by decide +kernel
theorem dX5_readStream_7 : decode cX5_readStream 7 = .ok (.istore_n 1, 1) := by decide +kernel
theorem dX5_readStream_8 : decode cX5_readStream 8 = .ok (.iload_n 1, 1) := by decide +kernel
theorem dX5_readStream_9 : decode cX5_readStream 9 = .ok (.bipush 12, 2) := by decide +kernel
theorem dX5_readStream_11 : decode cX5_readStream 11 = .ok (.if_icmp .lt 9, 3) := by decide +kernel
theorem dX5_readStream_14 : decode cX5_readStream 14 = .ok (.aload_n 0, 1) := by decide +kernel
theorem dX5_readStream_15 : decode cX5_readStream 15 = .ok (.iconst 5, 1) := by decide +kernel
theorem dX5_readStream_16 : decode cX5_readStream 16 = .ok (.invokevirtual 77, 3) := by decide +kernel
theorem dX5_readStream_19 : decode cX5_readStream 19 = .ok (.ireturn, 1) := by decide +kernel
theorem dX5_readStream_20 : decode cX5_readStream 20 = .ok (.aload_n 0, 1) := by decide +kernel
theorem dX5_readStream_21 : decode cX5_readStream 21 = .ok (.invokevirtual 64, 3) := by decide +kernel
theorem dX5_readStream_24 : decode cX5_readStream 24 = .ok (.aload_n 0, 1) := by decide +kernel
theorem dX5_readStream_25 : decode cX5_readStream 25 = .ok (.aload_n 0, 1) := by decide +kernel
theorem dX5_readStream_26 : decode cX5_readStream 26 = .ok (.getfield 29, 3) := by decide +kernel
theorem dX5_readStream_29 : decode cX5_readStream 29 = .ok (.iload_n 1, 1) := by decide +kernel
theorem dX5_readStream_30 : decode cX5_readStream 30 = .ok (.invokevirtual 127, 3) := by decide +kernel
theorem dX5_readStream_33 : decode cX5_readStream 33 = .ok (.ifCond .ne 5, 3) := by decide +kernel
theorem dX5_readStream_36 : decode cX5_readStream 36 = .ok (.iconst 0, 1) := by decide +kernel
theorem dX5_readStream_37 : decode cX5_readStream 37 = .ok (.ireturn, 1) := by decide +kernel
theorem dX5_readStream_38 : decode cX5_readStream 38 = .ok (.aload_n 0, 1) := by decide +kernel
theorem dX5_readStream_39 : decode cX5_readStream 39 = .ok (.invokevirtual 164, 3) := by decide +kernel
theorem dX5_readStream_42 : decode cX5_readStream 42 = .ok (.ifCond .ne 5, 3) := by decide +kernel
theorem dX5_readStream_45 : decode cX5_readStream 45 = .ok (.iconst 0, 1) := by decide +kernel
theorem dX5_readStream_46 : decode cX5_readStream 46 = .ok (.ireturn, 1) := by decide +kernel
theorem dX5_readStream_47 : decode cX5_readStream 47 = .ok (.aload_n 0, 1) := by decide +kernel
theorem dX5_readStream_48 : decode cX5_readStream 48 = .ok (.getfield 18, 3) := by decide +kernel
theorem dX5_readStream_51 : decode cX5_readStream 51 = .ok (.getfield 174, 3) := by decide +kernel
theorem dX5_readStream_54 : decode cX5_readStream 54 = .ok (.iload_n 1, 1) := by decide +kernel
theorem dX5_readStream_55 : decode cX5_readStream 55 = .ok (.aload_n 0, 1) := by decide +kernel
theorem dX5_readStream_56 : decode cX5_readStream 56 = .ok (.aload_n 0, 1) := by decide +kernel
theorem dX5_readStream_57 : decode cX5_readStream 57 = .ok (.getfield 26, 3) := by decide +kernel
theorem dX5_readStream_60 : decode cX5_readStream 60 = .ok (.aload_n 0, 1) := by decide +kernel
theorem dX5_readStream_61 : decode cX5_readStream 61 = .ok (.getfield 18, 3) := by decide +kernel
theorem dX5_readStream_64 : decode cX5_readStream 64 = .ok (.getfield 151, 3) := by decide +kernel
theorem dX5_readStream_67 : decode cX5_readStream 67 = .ok (.invokevirtual 167, 3) := by decide +kernel
theorem dX5_readStream_70 : decode cX5_readStream 70 = .ok (.iastore, 1) := by decide +kernel
theorem dX5_readStream_71 : decode cX5_readStream 71 = .ok (.aload_n 0, 1) := by decide +kernel
theorem dX5_readStream_72 : decode cX5_readStream 72 = .ok (.invokevirtual 64, 3) := by decide +kernel
theorem dX5_readStream_75 : decode cX5_readStream 75 = .ok (.aload_n 0, 1) := by decide +kernel
theorem dX5_readStream_76 : decode cX5_readStream 76 = .ok (.iconst 1, 1) := by decide +kernel
theorem dX5_readStream_77 : decode cX5_readStream 77 = .ok (.aload_n 0, 1) := by decide +kernel
theorem dX5_readStream_78 : decode cX5_readStream 78 = .ok (.getfield 18, 3) := by decide +kernel
theorem dX5_readStream_81 : decode cX5_readStream 81 = .ok (.getfield 95, 3) := by decide +kernel
theorem dX5_readStream_84 : decode cX5_readStream 84 = .ok (.invokevirtual 87, 3) := by decide +kernel
theorem dX5_readStream_87 : decode cX5_readStream 87 = .ok (.ifCond .ne 5, 3) := by decide +kernel
theorem dX5_readStream_90 : decode cX5_readStream 90 = .ok (.iconst 0, 1) := by decide +kernel
theorem dX5_readStream_91 : decode cX5_readStream 91 = .ok (.ireturn, 1) := by decide +kernel
theorem dX5_readStream_92 : decode cX5_readStream 92 = .ok (.aload_n 0, 1) := by decide +kernel
theorem dX5_readStream_93 : decode cX5_readStream 93 = .ok (.getfield 18, 3) := by decide +kernel
theorem dX5_readStream_96 : decode cX5_readStream 96 = .ok (.getfield 177, 3) := by decide +kernel
theorem dX5_readStream_99 : decode cX5_readStream 99 = .ok (.iload_n 1, 1) := by decide +kernel
theorem dX5_readStream_100 : decode cX5_readStream 100 = .ok (.aload_n 0, 1) := by decide +kernel
theorem dX5_readStream_101 : decode cX5_readStream 101 = .ok (.getfield 91, 3) := by decide +kernel
theorem dX5_readStream_104 : decode cX5_readStream 104 = .ok (.l2i, 1) := by decide +kernel
theorem dX5_readStream_105 : decode cX5_readStream 105 = .ok (.iastore, 1) := by decide +kernel
theorem dX5_readStream_106 : decode cX5_readStream 106 = .ok (.aload_n 0, 1) := by decide +kernel
theorem dX5_readStream_107 : decode cX5_readStream 107 = .ok (.invokevirtual 64, 3) := by decide +kernel
theorem dX5_readStream_110 : decode cX5_readStream 110 = .ok (.aload_n 0, 1) := by decide +kernel
theorem dX5_readStream_111 : decode cX5_readStream 111 = .ok (.iconst 1, 1) := by decide +kernel
theorem dX5_readStream_112 : decode cX5_readStream 112 = .ok (.sipush 9999, 3) := by decide +kernel
theorem dX5_readStream_115 : decode cX5_readStream 115 = .ok (.invokevirtual 87, 3) := by decide +kernel
theorem dX5_readStream_118 : decode cX5_readStream 118 = .ok (.ifCond .ne 5, 3) := by decide +kernel
theorem dX5_readStream_121 : decode cX5_readStream 121 = .ok (.iconst 0, 1) := by decide +kernel
theorem dX5_readStream_122 : decode cX5_readStream 122 = .ok (.ireturn, 1) := by decide +kernel
theorem dX5_readStream_123 : decode cX5_readStream 123 = .ok (.aload_n 0, 1) := by decide +kernel
theorem dX5_readStream_124 : decode cX5_readStream 124 = .ok (.getfield 18, 3) := by decide +kernel
theorem dX5_readStream_127 : decode cX5_readStream 127 = .ok (.getfield 180, 3) := by decide +kernel
theorem dX5_readStream_130 : decode cX5_readStream 130 = .ok (.iload_n 1, 1) := by decide +kernel
theorem dX5_readStream_131 : decode cX5_readStream 131 = .ok (.aload_n 0, 1) := by decide +kernel
theorem dX5_readStream_132 : decode cX5_readStream 132 = .ok (.getfield 91, 3) := by decide +kernel
theorem dX5_readStream_135 : decode cX5_readStream 135 = .ok (.l2i, 1) := by decide +kernel
theorem dX5_readStream_136 : decode cX5_readStream 136 = .ok (.iastore, 1) := by decide +kernel
theorem dX5_readStream_137 : decode cX5_readStream 137 = .ok (.aload_n 0, 1) := by decide +kernel
theorem dX5_readStream_138 : decode cX5_readStream 138 = .ok (.invokevirtual 64, 3) := by decide +kernel
theorem dX5_readStream_141 : decode cX5_readStream 141 = .ok (.aload_n 0, 1) := by decide +kernel
theorem dX5_readStream_142 : decode cX5_readStream 142 = .ok (.getfield 18, 3) := by decide +kernel
theorem dX5_readStream_145 : decode cX5_readStream 145 = .ok (.iload_n 1, 1) := by decide +kernel
theorem dX5_readStream_146 : decode cX5_readStream 146 = .ok (.iconst 1, 1) := by decide +kernel
theorem dX5_readStream_147 : decode cX5_readStream 147 = .ok (.iadd, 1) := by decide +kernel
theorem dX5_readStream_148 : decode cX5_readStream 148 = .ok (.putfield 171, 3) := by decide +kernel
theorem dX5_readStream_151 : decode cX5_readStream 151 = .ok (.iconst 1, 1) := by decide +kernel
theorem dX5_readStream_152 : decode cX5_readStream 152 = .ok (.ireturn, 1) := by decide +kernel
theorem dX5_readAlarm_0 : decode cX5_readAlarm 0 = .ok (.aload_n 0, 1) := by decide +kernel
theorem dX5_readAlarm_1 : decode cX5_readAlarm 1 = .ok (.getfield 57, 3) := by decide +kernel
theorem dX5_readAlarm_4 : decode cX5_readAlarm 4 = .ok (.ifCond .eq 9, 3) := by decide +kernel
theorem dX5_readAlarm_7 : decode cX5_readAlarm 7 = .ok (.aload_n 0, 1) := by decide +kernel
theorem dX5_readAlarm_8 : decode cX5_readAlarm 8 = .ok (.iconst 3, 1) := by decide +kernel
theorem dX5_readAlarm_9 : decode cX5_readAlarm 9 = .ok (.invokevirtual 77, 3) := by decide +kernel
theorem dX5_readAlarm_12 : decode cX5_readAlarm 12 = .ok (.ireturn, 1) := by decide +kernel
theorem dX5_readAlarm_13 : decode cX5_readAlarm 13 = .ok (.aload_n 0, 1) := by decide +kernel
theorem dX5_readAlarm_14 : decode cX5_readAlarm 14 = .ok (.iconst 1, 1) := by decide +kernel
theorem dX5_readAlarm_15 : decode cX5_readAlarm 15 = .ok (.putfield 57, 3) := by decide +kernel
theorem dX5_readAlarm_18 : decode cX5_readAlarm 18 = .ok (.aload_n 0, 1) := by decide +kernel
theorem dX5_readAlarm_19 : decode cX5_readAlarm 19 = .ok (.invokevirtual 64, 3) := by decide +kernel
theorem dX5_readAlarm_22 : decode cX5_readAlarm 22 = .ok (.aload_n 0, 1) := by decide +kernel
theorem dX5_readAlarm_23 : decode cX5_readAlarm 23 = .ok (.iconst 1, 1) := by decide +kernel
theorem dX5_readAlarm_24 : decode cX5_readAlarm 24 = .ok (.sipush 999, 3) := by decide +kernel
theorem dX5_readAlarm_27 : decode cX5_readAlarm 27 = .ok (.invokevirtual 87, 3) := by decide +kernel
theorem dX5_readAlarm_30 : decode cX5_readAlarm 30 = .ok (.ifCond .ne 5, 3) := by decide +kernel
theorem dX5_readAlarm_33 : decode cX5_readAlarm 33 = .ok (.iconst 0, 1) := by decide +kernel
theorem dX5_readAlarm_34 : decode cX5_readAlarm 34 = .ok (.ireturn, 1) := by decide +kernel
theorem dX5_readAlarm_35 : decode cX5_readAlarm 35 = .ok (.aload_n 0, 1) := by decide +kernel
theorem dX5_readAlarm_36 : decode cX5_readAlarm 36 = .ok (.getfield 18, 3) := by decide +kernel
theorem dX5_readAlarm_39 : decode cX5_readAlarm 39 = .ok (.aload_n 0, 1) := by decide +kernel
theorem dX5_readAlarm_40 : decode cX5_readAlarm 40 = .ok (.getfield 91, 3) := by decide +kernel
theorem dX5_readAlarm_43 : decode cX5_readAlarm 43 = .ok (.l2i, 1) := by decide +kernel
theorem dX5_readAlarm_44 : decode cX5_readAlarm 44 = .ok (.putfield 183, 3) := by decide +kernel
theorem dX5_readAlarm_47 : decode cX5_readAlarm 47 = .ok (.aload_n 0, 1) := by decide +kernel
theorem dX5_readAlarm_48 : decode cX5_readAlarm 48 = .ok (.invokevirtual 64, 3) := by decide +kernel
theorem dX5_readAlarm_51 : decode cX5_readAlarm 51 = .ok (.aload_n 0, 1) := by decide +kernel
theorem dX5_readAlarm_52 : decode cX5_readAlarm 52 = .ok (.iconst 1, 1) := by decide +kernel
theorem dX5_readAlarm_53 : decode cX5_readAlarm 53 = .ok (.bipush 99, 2) := by decide +kernel
theorem dX5_readAlarm_55 : decode cX5_readAlarm 55 = .ok (.invokevirtual 87, 3) := by decide +kernel
theorem dX5_readAlarm_58 : decode cX5_readAlarm 58 = .ok (.ifCond .ne 5, 3) := by decide +kernel
theorem dX5_readAlarm_61 : decode cX5_readAlarm 61 = .ok (.iconst 0, 1) := by decide +kernel
theorem dX5_readAlarm_62 : decode cX5_readAlarm 62 = .ok (.ireturn, 1) := by decide +kernel
theorem dX5_readAlarm_63 : decode cX5_readAlarm 63 = .ok (.aload_n 0, 1) := by decide +kernel
theorem dX5_readAlarm_64 : decode cX5_readAlarm 64 = .ok (.getfield 18, 3) := by decide +kernel
theorem dX5_readAlarm_67 : decode cX5_readAlarm 67 = .ok (.aload_n 0, 1) := by decide +kernel
theorem dX5_readAlarm_68 : decode cX5_readAlarm 68 = .ok (.getfield 91, 3) := by decide +kernel
theorem dX5_readAlarm_71 : decode cX5_readAlarm 71 = .ok (.l2i, 1) := by decide +kernel
theorem dX5_readAlarm_72 : decode cX5_readAlarm 72 = .ok (.putfield 186, 3) := by decide +kernel
theorem dX5_readAlarm_75 : decode cX5_readAlarm 75 = .ok (.aload_n 0, 1) := by decide +kernel
theorem dX5_readAlarm_76 : decode cX5_readAlarm 76 = .ok (.invokevirtual 64, 3) := by decide +kernel
theorem dX5_readAlarm_79 : decode cX5_readAlarm 79 = .ok (.iconst 1, 1) := by decide +kernel
theorem dX5_readAlarm_80 : decode cX5_readAlarm 80 = .ok (.ireturn, 1) := by decide +kernel
theorem dX5_takeSemicolon_0 : decode cX5_takeSemicolon 0 = .ok (.aload_n 0, 1) := by decide +kernel
theorem dX5_takeSemicolon_1 : decode cX5_takeSemicolon 1 = .ok (.getfield 71, 3) := by decide +kernel
theorem dX5_takeSemicolon_4 : decode cX5_takeSemicolon 4 = .ok (.iconst 3, 1) := by decide +kernel
theorem dX5_takeSemicolon_5 : decode cX5_takeSemicolon 5 = .ok (.if_icmp .eq 9, 3) := by decide +kernel
theorem dX5_takeSemicolon_8 : decode cX5_takeSemicolon 8 = .ok (.aload_n 0, 1) := by decide +kernel
theorem dX5_takeSemicolon_9 : decode cX5_takeSemicolon 9 = .ok (.iconst 1, 1) := by decide +kernel
theorem dX5_takeSemicolon_10 : decode cX5_takeSemicolon 10 = .ok (.invokevirtual 77, 3) := by decide +kernel
theorem dX5_takeSemicolon_13 : decode cX5_takeSemicolon 13 = .ok (.ireturn, 1) := by decide +kernel
theorem dX5_takeSemicolon_14 : decode cX5_takeSemicolon 14 = .ok (.aload_n 0, 1) := by decide +kernel
theorem dX5_takeSemicolon_15 : decode cX5_takeSemicolon 15 = .ok (.invokevirtual 64, 3) := by decide +kernel
theorem dX5_takeSemicolon_18 : decode cX5_takeSemicolon 18 = .ok (.iconst 1, 1) := by decide +kernel
theorem dX5_takeSemicolon_19 : decode cX5_takeSemicolon 19 = .ok (.ireturn, 1) := by decide +kernel
theorem dX5_takeNewName_0 : decode cX5_takeNewName 0 = .ok (.aload_n 0, 1) := by decide +kernel
theorem dX5_takeNewName_1 : decode cX5_takeNewName 1 = .ok (.getfield 71, 3) := by decide +kernel
theorem dX5_takeNewName_4 : decode cX5_takeNewName 4 = .ok (.iconst 1, 1) := by decide +kernel
theorem dX5_takeNewName_5 : decode cX5_takeNewName 5 = .ok (.if_icmp .eq 9, 3) := by decide +kernel
theorem dX5_takeNewName_8 : decode cX5_takeNewName 8 = .ok (.aload_n 0, 1) := by decide +kernel
theorem dX5_takeNewName_9 : decode cX5_takeNewName 9 = .ok (.iconst 1, 1) := by decide +kernel
theorem dX5_takeNewName_10 : decode cX5_takeNewName 10 = .ok (.invokevirtual 77, 3) := by decide +kernel
theorem dX5_takeNewName_13 : decode cX5_takeNewName 13 = .ok (.ireturn, 1) := by decide +kernel
theorem dX5_takeNewName_14 : decode cX5_takeNewName 14 = .ok (.aload_n 0, 1) := by decide +kernel
theorem dX5_takeNewName_15 : decode cX5_takeNewName 15 = .ok (.aload_n 1, 1) := by decide +kernel
theorem dX5_takeNewName_16 : decode cX5_takeNewName 16 = .ok (.iload_n 2, 1) := by decide +kernel
theorem dX5_takeNewName_17 : decode cX5_takeNewName 17 = .ok (.invokevirtual 167, 3) := by decide +kernel
theorem dX5_takeNewName_20 : decode cX5_takeNewName 20 = .ok (.iconst (-1), 1) := by decide +kernel
theorem dX5_takeNewName_21 : decode cX5_takeNewName 21 = .ok (.if_icmp .eq 9, 3) := by decide +kernel
theorem dX5_takeNewName_24 : decode cX5_takeNewName 24 = .ok (.aload_n 0, 1) := by decide +kernel
theorem dX5_takeNewName_25 : decode cX5_takeNewName 25 = .ok (.iconst 3, 1) := by decide +kernel
theorem dX5_takeNewName_26 : decode cX5_takeNewName 26 = .ok (.invokevirtual 77, 3) := by decide +kernel
theorem dX5_takeNewName_29 : decode cX5_takeNewName 29 = .ok (.ireturn, 1) := by decide +kernel
theorem dX5_takeNewName_30 : decode cX5_takeNewName 30 = .ok (.iload_n 2, 1) := by decide +kernel
theorem dX5_takeNewName_31 : decode cX5_takeNewName 31 = .ok (.ifCond .lt 16, 3) := by decide +kernel
theorem dX5_takeNewName_34 : decode cX5_takeNewName 34 = .ok (.iload_n 2, 1) := by decide +kernel
theorem dX5_takeNewName_35 : decode cX5_takeNewName 35 = .ok (.aload_n 1, 1) := by decide +kernel
theorem dX5_takeNewName_36 : decode cX5_takeNewName 36 = .ok (.arraylength, 1) := by decide +kernel
theorem dX5_takeNewName_37 : decode cX5_takeNewName 37 = .ok (.if_icmp .ge 10, 3) := by decide +kernel
theorem dX5_takeNewName_40 : decode cX5_takeNewName 40 = .ok (.aload_n 1, 1) := by decide +kernel
theorem dX5_takeNewName_41 : decode cX5_takeNewName 41 = .ok (.iload_n 2, 1) := by decide +kernel
theorem dX5_takeNewName_42 : decode cX5_takeNewName 42 = .ok (.aload_n 0, 1) := by decide +kernel
theorem dX5_takeNewName_43 : decode cX5_takeNewName 43 = .ok (.getfield 91, 3) := by decide +kernel
theorem dX5_takeNewName_46 : decode cX5_takeNewName 46 = .ok (.lastore, 1) := by decide +kernel
theorem dX5_takeNewName_47 : decode cX5_takeNewName 47 = .ok (.aload_n 0, 1) := by decide +kernel
theorem dX5_takeNewName_48 : decode cX5_takeNewName 48 = .ok (.invokevirtual 64, 3) := by decide +kernel
theorem dX5_takeNewName_51 : decode cX5_takeNewName 51 = .ok (.iconst 1, 1) := by decide +kernel
theorem dX5_takeNewName_52 : decode cX5_takeNewName 52 = .ok (.ireturn, 1) := by decide +kernel
theorem dX5_isKnownDevice_0 : decode cX5_isKnownDevice 0 = .ok (.aload_n 0, 1) := by decide +kernel
theorem dX5_isKnownDevice_1 : decode cX5_isKnownDevice 1 = .ok (.getfield 71, 3) := by decide +kernel
theorem dX5_isKnownDevice_4 : decode cX5_isKnownDevice 4 = .ok (.iconst 1, 1) := by decide +kernel
theorem dX5_isKnownDevice_5 : decode cX5_isKnownDevice 5 = .ok (.if_icmp .eq 9, 3) := by decide +kernel
theorem dX5_isKnownDevice_8 : decode cX5_isKnownDevice 8 = .ok (.aload_n 0, 1) := by decide +kernel
theorem dX5_isKnownDevice_9 : decode cX5_isKnownDevice 9 = .ok (.iconst 1, 1) := by decide +kernel
theorem dX5_isKnownDevice_10 : decode cX5_isKnownDevice 10 = .ok (.invokevirtual 77, 3) := by decide +kernel
theorem dX5_isKnownDevice_13 : decode cX5_isKnownDevice 13 = .ok (.ireturn, 1) := by decide +kernel
theorem dX5_isKnownDevice_14 : decode cX5_isKnownDevice 14 = .ok (.aload_n 0, 1) := by decide +kernel
theorem dX5_isKnownDevice_15 : decode cX5_isKnownDevice 15 = .ok (.aload_n 0, 1) := by decide +kernel
theorem dX5_isKnownDevice_16 : decode cX5_isKnownDevice 16 = .ok (.getfield 26, 3) := by decide +kernel
theorem dX5_isKnownDevice_19 : decode cX5_isKnownDevice 19 = .ok (.aload_n 0, 1) := by decide +kernel
theorem dX5_isKnownDevice_20 : decode cX5_isKnownDevice 20 = .ok (.getfield 18, 3) := by decide +kernel
theorem dX5_isKnownDevice_23 : decode cX5_isKnownDevice 23 = .ok (.getfield 151, 3) := by decide +kernel
theorem dX5_isKnownDevice_26 : decode cX5_isKnownDevice 26 = .ok (.invokevirtual 167, 3) := by decide +kernel
theorem dX5_isKnownDevice_29 : decode cX5_isKnownDevice 29 = .ok (.iconst (-1), 1) := by decide +kernel
theorem dX5_isKnownDevice_30 : decode cX5_isKnownDevice 30 = .ok (.if_icmp .ne 11, 3) := by decide +kernel
theorem dX5_isKnownDevice_33 : decode cX5_isKnownDevice 33 = .ok (.aload_n 0, 1) := by decide +kernel
theorem dX5_isKnownDevice_34 : decode cX5_isKnownDevice 34 = .ok (.iconst 2, 1) := by decide +kernel
theorem dX5_isKnownDevice_35 : decode cX5_isKnownDevice 35 = .ok (.invokevirtual 77, 3) := by decide +kernel
theorem dX5_isKnownDevice_38 : decode cX5_isKnownDevice 38 = .ok (.ifCond .eq 7, 3) := by decide +kernel
theorem dX5_isKnownDevice_41 : decode cX5_isKnownDevice 41 = .ok (.iconst 1, 1) := by decide +kernel
theorem dX5_isKnownDevice_42 : decode cX5_isKnownDevice 42 = .ok (.goto 4, 3) := by decide +kernel
theorem dX5_isKnownDevice_45 : decode cX5_isKnownDevice 45 = .ok (.iconst 0, 1) := by decide +kernel
theorem dX5_isKnownDevice_46 : decode cX5_isKnownDevice 46 = .ok (.ireturn, 1) := by decide +kernel
theorem dX5_isNumberWithin_0 : decode cX5_isNumberWithin 0 = .ok (.aload_n 0, 1) := by decide +kernel
theorem dX5_isNumberWithin_1 : decode cX5_isNumberWithin 1 = .ok (.getfield 71, 3) := by decide +kernel
theorem dX5_isNumberWithin_4 : decode cX5_isNumberWithin 4 = .ok (.iconst 2, 1) := by decide +kernel
theorem dX5_isNumberWithin_5 : decode cX5_isNumberWithin 5 = .ok (.if_icmp .eq 9, 3) := by decide +kernel
theorem dX5_isNumberWithin_8 : decode cX5_isNumberWithin 8 = .ok (.aload_n 0, 1) := by decide +kernel
theorem dX5_isNumberWithin_9 : decode cX5_isNumberWithin 9 = .ok (.iconst 1, 1) := by decide +kernel
theorem dX5_isNumberWithin_10 : decode cX5_isNumberWithin 10 = .ok (.invokevirtual 77, 3) := by decide +kernel
theorem dX5_isNumberWithin_13 : decode cX5_isNumberWithin 13 = .ok (.ireturn, 1) := by decide +kernel
theorem dX5_isNumberWithin_14 : decode cX5_isNumberWithin 14 = .ok (.aload_n 0, 1) := by decide +kernel
theorem dX5_isNumberWithin_15 : decode cX5_isNumberWithin 15 = .ok (.getfield 91, 3) := by decide +kernel
theorem dX5_isNumberWithin_18 : decode cX5_isNumberWithin 18 = .ok (.iload_n 1, 1) := by decide +kernel
theorem dX5_isNumberWithin_19 : decode cX5_isNumberWithin 19 = .ok (.i2l, 1) := by decide +kernel
theorem dX5_isNumberWithin_20 : decode cX5_isNumberWithin 20 = .ok (.lcmp, 1) := by decide +kernel
theorem dX5_isNumberWithin_21 : decode cX5_isNumberWithin 21 = .ok (.ifCond .lt 13, 3) := by decide +kernel
theorem dX5_isNumberWithin_24 : decode cX5_isNumberWithin 24 = .ok (.aload_n 0, 1) := by decide +kernel
theorem dX5_isNumberWithin_25 : decode cX5_isNumberWithin 25 = .ok (.getfield 91, 3) := by decide +kernel
theorem dX5_isNumberWithin_28 : decode cX5_isNumberWithin 28 = .ok (.iload_n 2, 1) := by decide +kernel
theorem dX5_isNumberWithin_29 : decode cX5_isNumberWithin 29 = .ok (.i2l, 1) := by decide +kernel
theorem dX5_isNumberWithin_30 : decode cX5_isNumberWithin 30 = .ok (.lcmp, 1) := by decide +kernel
theorem dX5_isNumberWithin_31 : decode cX5_isNumberWithin 31 = .ok (.ifCond .le 11, 3) := by decide +kernel
theorem dX5_isNumberWithin_34 : decode cX5_isNumberWithin 34 = .ok (.aload_n 0, 1) := by decide +kernel
theorem dX5_isNumberWithin_35 : decode cX5_isNumberWithin 35 = .ok (.iconst 4, 1) := by decide +kernel
theorem dX5_isNumberWithin_36 : decode cX5_isNumberWithin 36 = .ok (.invokevirtual 77, 3) := by decide +kernel
theorem dX5_isNumberWithin_39 : decode cX5_isNumberWithin 39 = .ok (.ifCond .eq 7, 3) := by decide +kernel
theorem dX5_isNumberWithin_42 : decode cX5_isNumberWithin 42 = .ok (.iconst 1, 1) := by decide +kernel
theorem dX5_isNumberWithin_43 : decode cX5_isNumberWithin 43 = .ok (.goto 4, 3) := by decide +kernel
theorem dX5_isNumberWithin_46 : decode cX5_isNumberWithin 46 = .ok (.iconst 0, 1) := by decide +kernel
theorem dX5_isNumberWithin_47 : decode cX5_isNumberWithin 47 = .ok (.ireturn, 1) := by decide +kernel
theorem dX5_isTakenPort_0 : decode cX5_isTakenPort 0 = .ok (.iconst 0, 1) := by decide +kernel
theorem dX5_isTakenPort_1 : decode cX5_isTakenPort 1 = .ok (.istore_n 2, 1) := by decide +kernel
theorem dX5_isTakenPort_2 : decode cX5_isTakenPort 2 = .ok (.iload_n 2, 1) := by decide +kernel
theorem dX5_isTakenPort_3 : decode cX5_isTakenPort 3 = .ok (.aload_n 0, 1) := by decide +kernel
theorem dX5_isTakenPort_4 : decode cX5_isTakenPort 4 = .ok (.getfield 18, 3) := by decide +kernel
theorem dX5_isTakenPort_7 : decode cX5_isTakenPort 7 = .ok (.getfield 151, 3) := by decide +kernel
theorem dX5_isTakenPort_10 : decode cX5_isTakenPort 10 = .ok (.if_icmp .ge 30, 3) := by decide +kernel
theorem dX5_isTakenPort_13 : decode cX5_isTakenPort 13 = .ok (.iload_n 2, 1) := by decide +kernel
theorem dX5_isTakenPort_14 : decode cX5_isTakenPort 14 = .ok (.bipush 8, 2) := by decide +kernel
theorem dX5_isTakenPort_16 : decode cX5_isTakenPort 16 = .ok (.if_icmp .ge 24, 3) := by decide +kernel
theorem dX5_isTakenPort_19 : decode cX5_isTakenPort 19 = .ok (.aload_n 0, 1) := by decide +kernel
theorem dX5_isTakenPort_20 : decode cX5_isTakenPort 20 = .ok (.getfield 18, 3) := by decide +kernel
theorem dX5_isTakenPort_23 : decode cX5_isTakenPort 23 = .ok (.getfield 157, 3) := by decide +kernel
theorem dX5_isTakenPort_26 : decode cX5_isTakenPort 26 = .ok (.iload_n 2, 1) := by decide +kernel
theorem dX5_isTakenPort_27 : decode cX5_isTakenPort 27 = .ok (.iaload, 1) := by decide +kernel
theorem dX5_isTakenPort_28 : decode cX5_isTakenPort 28 = .ok (.iload_n 1, 1) := by decide +kernel
theorem dX5_isTakenPort_29 : decode cX5_isTakenPort 29 = .ok (.if_icmp .ne 5, 3) := by decide +kernel
theorem dX5_isTakenPort_32 : decode cX5_isTakenPort 32 = .ok (.iconst 1, 1) := by decide +kernel
theorem dX5_isTakenPort_33 : decode cX5_isTakenPort 33 = .ok (.ireturn, 1) := by decide +kernel
theorem dX5_isTakenPort_34 : decode cX5_isTakenPort 34 = .ok (.iinc 2 1, 3) := by decide +kernel
theorem dX5_isTakenPort_37 : decode cX5_isTakenPort 37 = .ok (.goto (-35), 3) := by decide +kernel
theorem dX5_isTakenPort_40 : decode cX5_isTakenPort 40 = .ok (.iconst 0, 1) := by decide +kernel
theorem dX5_isTakenPort_41 : decode cX5_isTakenPort 41 = .ok (.ireturn, 1) := by decide +kernel
theorem dX5_indexOfWord_0 : decode cX5_indexOfWord 0 = .ok (.iconst 0, 1) := by decide +kernel
theorem dX5_indexOfWord_1 : decode cX5_indexOfWord 1 = .ok (.istore_n 3, 1) := by decide +kernel
theorem dX5_indexOfWord_2 : decode cX5_indexOfWord 2 = .ok (.iload_n 3, 1) := by decide +kernel
theorem dX5_indexOfWord_3 : decode cX5_indexOfWord 3 = .ok (.iload_n 2, 1) := by decide +kernel
theorem dX5_indexOfWord_4 : decode cX5_indexOfWord 4 = .ok (.if_icmp .ge 28, 3) := by decide +kernel
theorem dX5_indexOfWord_7 : decode cX5_indexOfWord 7 = .ok (.iload_n 3, 1) := by decide +kernel
theorem dX5_indexOfWord_8 : decode cX5_indexOfWord 8 = .ok (.aload_n 1, 1) := by decide +kernel
theorem dX5_indexOfWord_9 : decode cX5_indexOfWord 9 = .ok (.arraylength, 1) := by decide +kernel
theorem dX5_indexOfWord_10 : decode cX5_indexOfWord 10 = .ok (.if_icmp .ge 22, 3) := by decide +kernel
theorem dX5_indexOfWord_13 : decode cX5_indexOfWord 13 = .ok (.aload_n 1, 1) := by decide +kernel
theorem dX5_indexOfWord_14 : decode cX5_indexOfWord 14 = .ok (.iload_n 3, 1) := by decide +kernel
theorem dX5_indexOfWord_15 : decode cX5_indexOfWord 15 = .ok (.laload, 1) := by decide +kernel
theorem dX5_indexOfWord_16 : decode cX5_indexOfWord 16 = .ok (.aload_n 0, 1) := by decide +kernel
theorem dX5_indexOfWord_17 : decode cX5_indexOfWord 17 = .ok (.getfield 91, 3) := by decide +kernel
theorem dX5_indexOfWord_20 : decode cX5_indexOfWord 20 = .ok (.lcmp, 1) := by decide +kernel
theorem dX5_indexOfWord_21 : decode cX5_indexOfWord 21 = .ok (.ifCond .ne 5, 3) := by decide +kernel
theorem dX5_indexOfWord_24 : decode cX5_indexOfWord 24 = .ok (.iload_n 3, 1) := by decide +kernel
theorem dX5_indexOfWord_25 : decode cX5_indexOfWord 25 = .ok (.ireturn, 1) := by decide +kernel
theorem dX5_indexOfWord_26 : decode cX5_indexOfWord 26 = .ok (.iinc 3 1, 3) := by decide +kernel
theorem dX5_indexOfWord_29 : decode cX5_indexOfWord 29 = .ok (.goto (-27), 3) := by decide +kernel
theorem dX5_indexOfWord_32 : decode cX5_indexOfWord 32 = .ok (.iconst (-1), 1) := by decide +kernel
theorem dX5_indexOfWord_33 : decode cX5_indexOfWord 33 = .ok (.ireturn, 1) := by decide +kernel
theorem dX5_kindOfWord_0 : decode cX5_kindOfWord 0 = .ok (.aload_n 0, 1) := by decide +kernel
theorem dX5_kindOfWord_1 : decode cX5_kindOfWord 1 = .ok (.ldc 189, 2) := by decide +kernel
theorem dX5_kindOfWord_3 : decode cX5_kindOfWord 3 = .ok (.invokevirtual 83, 3) := by decide +kernel
theorem dX5_kindOfWord_6 : decode cX5_kindOfWord 6 = .ok (.ifCond .eq 5, 3) := by decide +kernel
theorem dX5_kindOfWord_9 : decode cX5_kindOfWord 9 = .ok (.iconst 0, 1) := by decide +kernel
theorem dX5_kindOfWord_10 : decode cX5_kindOfWord 10 = .ok (.ireturn, 1) := by decide +kernel
theorem dX5_kindOfWord_11 : decode cX5_kindOfWord 11 = .ok (.aload_n 0, 1) := by decide +kernel
theorem dX5_kindOfWord_12 : decode cX5_kindOfWord 12 = .ok (.ldc 191, 2) := by decide +kernel
theorem dX5_kindOfWord_14 : decode cX5_kindOfWord 14 = .ok (.invokevirtual 83, 3) := by decide +kernel
theorem dX5_kindOfWord_17 : decode cX5_kindOfWord 17 = .ok (.ifCond .eq 5, 3) := by decide +kernel
theorem dX5_kindOfWord_20 : decode cX5_kindOfWord 20 = .ok (.iconst 1, 1) := by decide +kernel
theorem dX5_kindOfWord_21 : decode cX5_kindOfWord 21 = .ok (.ireturn, 1) := by decide +kernel
theorem dX5_kindOfWord_22 : decode cX5_kindOfWord 22 = .ok (.aload_n 0, 1) := by decide +kernel
theorem dX5_kindOfWord_23 : decode cX5_kindOfWord 23 = .ok (.ldc 193, 2) := by decide +kernel
theorem dX5_kindOfWord_25 : decode cX5_kindOfWord 25 = .ok (.invokevirtual 83, 3) := by decide +kernel
theorem dX5_kindOfWord_28 : decode cX5_kindOfWord 28 = .ok (.ifCond .eq 5, 3) := by decide +kernel
theorem dX5_kindOfWord_31 : decode cX5_kindOfWord 31 = .ok (.iconst 2, 1) := by decide +kernel
theorem dX5_kindOfWord_32 : decode cX5_kindOfWord 32 = .ok (.ireturn, 1) := by decide +kernel
theorem dX5_kindOfWord_33 : decode cX5_kindOfWord 33 = .ok (.aload_n 0, 1) := by decide +kernel
theorem dX5_kindOfWord_34 : decode cX5_kindOfWord 34 = .ok (.ldc 195, 2) := by decide +kernel
theorem dX5_kindOfWord_36 : decode cX5_kindOfWord 36 = .ok (.invokevirtual 83, 3) := by decide +kernel
theorem dX5_kindOfWord_39 : decode cX5_kindOfWord 39 = .ok (.ifCond .eq 7, 3) := by decide +kernel
theorem dX5_kindOfWord_42 : decode cX5_kindOfWord 42 = .ok (.iconst 3, 1) := by decide +kernel
theorem dX5_kindOfWord_43 : decode cX5_kindOfWord 43 = .ok (.goto 4, 3) := by decide +kernel
theorem dX5_kindOfWord_46 : decode cX5_kindOfWord 46 = .ok (.iconst (-1), 1) := by decide +kernel
theorem dX5_kindOfWord_47 : decode cX5_kindOfWord 47 = .ok (.ireturn, 1) := by decide +kernel
theorem dX5_isWord_0 : decode cX5_isWord 0 = .ok (.aload_n 0, 1) := by decide +kernel
theorem dX5_isWord_1 : decode cX5_isWord 1 = .ok (.getfield 71, 3) := by decide +kernel
theorem dX5_isWord_4 : decode cX5_isWord 4 = .ok (.iconst 1, 1) := by decide +kernel
theorem dX5_isWord_5 : decode cX5_isWord 5 = .ok (.if_icmp .ne 19, 3) := by decide +kernel
theorem dX5_isWord_8 : decode cX5_isWord 8 = .ok (.aload_n 0, 1) := by decide +kernel
theorem dX5_isWord_9 : decode cX5_isWord 9 = .ok (.getfield 54, 3) := by decide +kernel
theorem dX5_isWord_12 : decode cX5_isWord 12 = .ok (.aload_n 0, 1) := by decide +kernel
theorem dX5_isWord_13 : decode cX5_isWord 13 = .ok (.getfield 197, 3) := by decide +kernel
theorem dX5_isWord_16 : decode cX5_isWord 16 = .ok (.isub, 1) := by decide +kernel
theorem dX5_isWord_17 : decode cX5_isWord 17 = .ok (.aload_n 1, 1) := by decide +kernel
theorem dX5_isWord_18 : decode cX5_isWord 18 = .ok (.invokevirtual 200, 3) := by decide +kernel
theorem dX5_isWord_21 : decode cX5_isWord 21 = .ok (.if_icmp .eq 5, 3) := by decide +kernel
theorem dX5_isWord_24 : decode cX5_isWord 24 = .ok (.iconst 0, 1) := by decide +kernel
theorem dX5_isWord_25 : decode cX5_isWord 25 = .ok (.ireturn, 1) := by decide +kernel
theorem dX5_isWord_26 : decode cX5_isWord 26 = .ok (.iconst 0, 1) := by decide +kernel
theorem dX5_isWord_27 : decode cX5_isWord 27 = .ok (.istore_n 2, 1) := by decide +kernel
theorem dX5_isWord_28 : decode cX5_isWord 28 = .ok (.iload_n 2, 1) := by decide +kernel
theorem dX5_isWord_29 : decode cX5_isWord 29 = .ok (.aload_n 1, 1) := by decide +kernel
theorem dX5_isWord_30 : decode cX5_isWord 30 = .ok (.invokevirtual 200, 3) := by decide +kernel
theorem dX5_isWord_33 : decode cX5_isWord 33 = .ok (.if_icmp .ge 30, 3) := by decide +kernel
theorem dX5_isWord_36 : decode cX5_isWord 36 = .ok (.aload_n 0, 1) := by decide +kernel
theorem dX5_isWord_37 : decode cX5_isWord 37 = .ok (.getfield 9, 3) := by decide +kernel
theorem dX5_isWord_40 : decode cX5_isWord 40 = .ok (.aload_n 0, 1) := by decide +kernel
theorem dX5_isWord_41 : decode cX5_isWord 41 = .ok (.getfield 197, 3) := by decide +kernel
theorem dX5_isWord_44 : decode cX5_isWord 44 = .ok (.iload_n 2, 1) := by decide +kernel
theorem dX5_isWord_45 : decode cX5_isWord 45 = .ok (.iadd, 1) := by decide +kernel
theorem dX5_isWord_46 : decode cX5_isWord 46 = .ok (.baload, 1) := by decide +kernel
theorem dX5_isWord_47 : decode cX5_isWord 47 = .ok (.aload_n 1, 1) := by decide +kernel
theorem dX5_isWord_48 : decode cX5_isWord 48 = .ok (.iload_n 2, 1) := by decide +kernel
theorem dX5_isWord_49 : decode cX5_isWord 49 = .ok (.invokevirtual 205, 3) := by decide +kernel
theorem dX5_isWord_52 : decode cX5_isWord 52 = .ok (.if_icmp .eq 5, 3) := by decide +kernel
theorem dX5_isWord_55 : decode cX5_isWord 55 = .ok (.iconst 0, 1) := by decide +kernel
theorem dX5_isWord_56 : decode cX5_isWord 56 = .ok (.ireturn, 1) := by decide +kernel
theorem dX5_isWord_57 : decode cX5_isWord 57 = .ok (.iinc 2 1, 3) := by decide +kernel
theorem dX5_isWord_60 : decode cX5_isWord 60 = .ok (.goto (-32), 3) := by decide +kernel
theorem dX5_isWord_63 : decode cX5_isWord 63 = .ok (.iconst 1, 1) := by decide +kernel
theorem dX5_isWord_64 : decode cX5_isWord 64 = .ok (.ireturn, 1) := by decide +kernel
theorem dX5_fault_0 : decode cX5_fault 0 = .ok (.aload_n 0, 1) := by decide +kernel
theorem dX5_fault_1 : decode cX5_fault 1 = .ok (.aload_n 0, 1) := by decide +kernel
theorem dX5_fault_2 : decode cX5_fault 2 = .ok (.getfield 197, 3) := by decide +kernel
theorem dX5_fault_5 : decode cX5_fault 5 = .ok (.putfield 36, 3) := by decide +kernel
theorem dX5_fault_8 : decode cX5_fault 8 = .ok (.aload_n 0, 1) := by decide +kernel
theorem dX5_fault_9 : decode cX5_fault 9 = .ok (.iload_n 1, 1) := by decide +kernel
theorem dX5_fault_10 : decode cX5_fault 10 = .ok (.putfield 39, 3) := by decide +kernel
theorem dX5_fault_13 : decode cX5_fault 13 = .ok (.iconst 0, 1) := by decide +kernel
theorem dX5_fault_14 : decode cX5_fault 14 = .ok (.ireturn, 1) := by decide +kernel
theorem dX5_advance_0 : decode cX5_advance 0 = .ok (.aload_n 0, 1) := by decide +kernel
theorem dX5_advance_1 : decode cX5_advance 1 = .ok (.getfield 54, 3) := by decide +kernel
theorem dX5_advance_4 : decode cX5_advance 4 = .ok (.aload_n 0, 1) := by decide +kernel
theorem dX5_advance_5 : decode cX5_advance 5 = .ok (.getfield 51, 3) := by decide +kernel
theorem dX5_advance_8 : decode cX5_advance 8 = .ok (.if_icmp .ge 32, 3) := by decide +kernel
theorem dX5_advance_11 : decode cX5_advance 11 = .ok (.aload_n 0, 1) := by decide +kernel
theorem dX5_advance_12 : decode cX5_advance 12 = .ok (.getfield 9, 3) := by decide +kernel
theorem dX5_advance_15 : decode cX5_advance 15 = .ok (.aload_n 0, 1) := by decide +kernel
theorem dX5_advance_16 : decode cX5_advance 16 = .ok (.getfield 54, 3) := by decide +kernel
theorem dX5_advance_19 : decode cX5_advance 19 = .ok (.baload, 1) := by decide +kernel
theorem dX5_advance_20 : decode cX5_advance 20 = .ok (.invokestatic 209, 3) := by decide +kernel
theorem dX5_advance_23 : decode cX5_advance 23 = .ok (.iconst 5, 1) := by decide +kernel
theorem dX5_advance_24 : decode cX5_advance 24 = .ok (.if_icmp .ne 16, 3) := by decide +kernel
theorem dX5_advance_27 : decode cX5_advance 27 = .ok (.aload_n 0, 1) := by decide +kernel
theorem dX5_advance_28 : decode cX5_advance 28 = .ok (.dup, 1) := by decide +kernel
theorem dX5_advance_29 : decode cX5_advance 29 = .ok (.getfield 54, 3) := by decide +kernel
theorem dX5_advance_32 : decode cX5_advance 32 = .ok (.iconst 1, 1) := by decide +kernel
theorem dX5_advance_33 : decode cX5_advance 33 = .ok (.iadd, 1) := by decide +kernel
theorem dX5_advance_34 : decode cX5_advance 34 = .ok (.putfield 54, 3) := by decide +kernel
theorem dX5_advance_37 : decode cX5_advance 37 = .ok (.goto (-37), 3) := by decide +kernel
theorem dX5_advance_40 : decode cX5_advance 40 = .ok (.aload_n 0, 1) := by decide +kernel
theorem dX5_advance_41 : decode cX5_advance 41 = .ok (.aload_n 0, 1) := by decide +kernel
theorem dX5_advance_42 : decode cX5_advance 42 = .ok (.getfield 54, 3) := by decide +kernel
theorem dX5_advance_45 : decode cX5_advance 45 = .ok (.putfield 197, 3) := by decide +kernel
theorem dX5_advance_48 : decode cX5_advance 48 = .ok (.aload_n 0, 1) := by decide +kernel
theorem dX5_advance_49 : decode cX5_advance 49 = .ok (.aload_n 0, 1) := by decide +kernel
theorem dX5_advance_50 : decode cX5_advance 50 = .ok (.getfield 54, 3) := by decide +kernel
theorem dX5_advance_53 : decode cX5_advance 53 = .ok (.aload_n 0, 1) := by decide +kernel
theorem dX5_advance_54 : decode cX5_advance 54 = .ok (.getfield 51, 3) := by decide +kernel
theorem dX5_advance_57 : decode cX5_advance 57 = .ok (.if_icmp .ge 18, 3) := by decide +kernel
theorem dX5_advance_60 : decode cX5_advance 60 = .ok (.aload_n 0, 1) := by decide +kernel
theorem dX5_advance_61 : decode cX5_advance 61 = .ok (.getfield 9, 3) := by decide +kernel
theorem dX5_advance_64 : decode cX5_advance 64 = .ok (.aload_n 0, 1) := by decide +kernel
theorem dX5_advance_65 : decode cX5_advance 65 = .ok (.getfield 54, 3) := by decide +kernel
theorem dX5_advance_68 : decode cX5_advance 68 = .ok (.baload, 1) := by decide +kernel
theorem dX5_advance_69 : decode cX5_advance 69 = .ok (.invokestatic 209, 3) := by decide +kernel
theorem dX5_advance_72 : decode cX5_advance 72 = .ok (.goto 4, 3) := by decide +kernel
theorem dX5_advance_75 : decode cX5_advance 75 = .ok (.iconst 0, 1) := by decide +kernel
theorem dX5_advance_76 : decode cX5_advance 76 = .ok (.putfield 71, 3) := by decide +kernel
theorem dX5_advance_79 : decode cX5_advance 79 = .ok (.aload_n 0, 1) := by decide +kernel
theorem dX5_advance_80 : decode cX5_advance 80 = .ok (.getfield 71, 3) := by decide +kernel
theorem dX5_advance_83 : decode cX5_advance 83 = .ok (.iconst 1, 1) := by decide +kernel
theorem dX5_advance_84 : decode cX5_advance 84 = .ok (.if_icmp .eq 29, 3) := by decide +kernel
theorem dX5_advance_87 : decode cX5_advance 87 = .ok (.aload_n 0, 1) := by decide +kernel
theorem dX5_advance_88 : decode cX5_advance 88 = .ok (.getfield 71, 3) := by decide +kernel
theorem dX5_advance_91 : decode cX5_advance 91 = .ok (.iconst 2, 1) := by decide +kernel
theorem dX5_advance_92 : decode cX5_advance 92 = .ok (.if_icmp .eq 21, 3) := by decide +kernel
theorem dX5_advance_95 : decode cX5_advance 95 = .ok (.aload_n 0, 1) := by decide +kernel
theorem dX5_advance_96 : decode cX5_advance 96 = .ok (.aload_n 0, 1) := by decide +kernel
theorem dX5_advance_97 : decode cX5_advance 97 = .ok (.getfield 54, 3) := by decide +kernel
theorem dX5_advance_100 : decode cX5_advance 100 = .ok (.iconst 1, 1) := by decide +kernel
theorem dX5_advance_101 : decode cX5_advance 101 = .ok (.iadd, 1) := by decide +kernel
theorem dX5_advance_102 : decode cX5_advance 102 = .ok (.aload_n 0, 1) := by decide +kernel
theorem dX5_advance_103 : decode cX5_advance 103 = .ok (.getfield 51, 3) := by decide +kernel
theorem dX5_advance_106 : decode cX5_advance 106 = .ok (.invokestatic 42, 3) := by decide +kernel
theorem dX5_advance_109 : decode cX5_advance 109 = .ok (.putfield 54, 3) := by decide +kernel
theorem dX5_advance_112 : decode cX5_advance 112 = .ok (.return_, 1) := by decide +kernel
theorem dX5_advance_113 : decode cX5_advance 113 = .ok (.aload_n 0, 1) := by decide +kernel
theorem dX5_advance_114 : decode cX5_advance 114 = .ok (.getfield 71, 3) := by decide +kernel
theorem dX5_advance_117 : decode cX5_advance 117 = .ok (.iconst 1, 1) := by decide +kernel
theorem dX5_advance_118 : decode cX5_advance 118 = .ok (.if_icmp .ne 8, 3) := by decide +kernel
theorem dX5_advance_121 : decode cX5_advance 121 = .ok (.bipush 27, 2) := by decide +kernel
theorem dX5_advance_123 : decode cX5_advance 123 = .ok (.goto 5, 3) := by decide +kernel
theorem dX5_advance_126 : decode cX5_advance 126 = .ok (.bipush 10, 2) := by decide +kernel
theorem dX5_advance_128 : decode cX5_advance 128 = .ok (.istore_n 1, 1) := by decide +kernel
theorem dX5_advance_129 : decode cX5_advance 129 = .ok (.aload_n 0, 1) := by decide +kernel
theorem dX5_advance_130 : decode cX5_advance 130 = .ok (.getfield 71, 3) := by decide +kernel
theorem dX5_advance_133 : decode cX5_advance 133 = .ok (.iconst 1, 1) := by decide +kernel
theorem dX5_advance_134 : decode cX5_advance 134 = .ok (.if_icmp .ne 8, 3) := by decide +kernel
theorem dX5_advance_137 : decode cX5_advance 137 = .ok (.bipush 96, 2) := by decide +kernel
theorem dX5_advance_139 : decode cX5_advance 139 = .ok (.goto 5, 3) := by decide +kernel
theorem dX5_advance_142 : decode cX5_advance 142 = .ok (.bipush 48, 2) := by decide +kernel
theorem dX5_advance_144 : decode cX5_advance 144 = .ok (.istore_n 2, 1) := by decide +kernel
theorem dX5_advance_145 : decode cX5_advance 145 = .ok (.aload_n 0, 1) := by decide +kernel
theorem dX5_advance_146 : decode cX5_advance 146 = .ok (.lconst 0, 1) := by decide +kernel
theorem dX5_advance_147 : decode cX5_advance 147 = .ok (.putfield 91, 3) := by decide +kernel
theorem dX5_advance_150 : decode cX5_advance 150 = .ok (.aload_n 0, 1) := by decide +kernel
theorem dX5_advance_151 : decode cX5_advance 151 = .ok (.getfield 54, 3) := by decide +kernel
theorem dX5_advance_154 : decode cX5_advance 154 = .ok (.aload_n 0, 1) := by decide +kernel
theorem dX5_advance_155 : decode cX5_advance 155 = .ok (.getfield 51, 3) := by decide +kernel
theorem dX5_advance_158 : decode cX5_advance 158 = .ok (.if_icmp .ge 59, 3) := by decide +kernel
theorem dX5_advance_161 : decode cX5_advance 161 = .ok (.aload_n 0, 1) := by decide +kernel
theorem dX5_advance_162 : decode cX5_advance 162 = .ok (.getfield 9, 3) := by decide +kernel
theorem dX5_advance_165 : decode cX5_advance 165 = .ok (.aload_n 0, 1) := by decide +kernel
theorem dX5_advance_166 : decode cX5_advance 166 = .ok (.getfield 54, 3) := by decide +kernel
theorem dX5_advance_169 : decode cX5_advance 169 = .ok (.baload, 1) := by decide +kernel
theorem dX5_advance_170 : decode cX5_advance 170 = .ok (.invokestatic 209, 3) := by decide +kernel
theorem dX5_advance_173 : decode cX5_advance 173 = .ok (.aload_n 0, 1) := by decide +kernel
theorem dX5_advance_174 : decode cX5_advance 174 = .ok (.getfield 71, 3) := by decide +kernel
theorem dX5_advance_177 : decode cX5_advance 177 = .ok (.if_icmp .ne 40, 3) := by decide +kernel
theorem dX5_advance_180 : decode cX5_advance 180 = .ok (.aload_n 0, 1) := by decide +kernel
theorem dX5_advance_181 : decode cX5_advance 181 = .ok (.aload_n 0, 1) := by decide +kernel
theorem dX5_advance_182 : decode cX5_advance 182 = .ok (.getfield 91, 3) := by decide +kernel
theorem dX5_advance_185 : decode cX5_advance 185 = .ok (.iload_n 1, 1) := by decide +kernel
theorem dX5_advance_186 : decode cX5_advance 186 = .ok (.i2l, 1) := by decide +kernel
theorem dX5_advance_187 : decode cX5_advance 187 = .ok (.lmul, 1) := by decide +kernel
theorem dX5_advance_188 : decode cX5_advance 188 = .ok (.aload_n 0, 1) := by decide +kernel
theorem dX5_advance_189 : decode cX5_advance 189 = .ok (.getfield 9, 3) := by decide +kernel
theorem dX5_advance_192 : decode cX5_advance 192 = .ok (.aload_n 0, 1) := by decide +kernel
theorem dX5_advance_193 : decode cX5_advance 193 = .ok (.getfield 54, 3) := by decide +kernel
theorem dX5_advance_196 : decode cX5_advance 196 = .ok (.baload, 1) := by decide +kernel
theorem dX5_advance_197 : decode cX5_advance 197 = .ok (.iload_n 2, 1) := by decide +kernel
theorem dX5_advance_198 : decode cX5_advance 198 = .ok (.isub, 1) := by decide +kernel
theorem dX5_advance_199 : decode cX5_advance 199 = .ok (.i2l, 1) := by decide +kernel
theorem dX5_advance_200 : decode cX5_advance 200 = .ok (.ladd, 1) := by decide +kernel
theorem dX5_advance_201 : decode cX5_advance 201 = .ok (.putfield 91, 3) := by decide +kernel
theorem dX5_advance_204 : decode cX5_advance 204 = .ok (.aload_n 0, 1) := by decide +kernel
theorem dX5_advance_205 : decode cX5_advance 205 = .ok (.dup, 1) := by decide +kernel
theorem dX5_advance_206 : decode cX5_advance 206 = .ok (.getfield 54, 3) := by decide +kernel
theorem dX5_advance_209 : decode cX5_advance 209 = .ok (.iconst 1, 1) := by decide +kernel
theorem dX5_advance_210 : decode cX5_advance 210 = .ok (.iadd, 1) := by decide +kernel
theorem dX5_advance_211 : decode cX5_advance 211 = .ok (.putfield 54, 3) := by decide +kernel
theorem dX5_advance_214 : decode cX5_advance 214 = .ok (.goto (-64), 3) := by decide +kernel
theorem dX5_advance_217 : decode cX5_advance 217 = .ok (.aload_n 0, 1) := by decide +kernel
theorem dX5_advance_218 : decode cX5_advance 218 = .ok (.getfield 54, 3) := by decide +kernel
theorem dX5_advance_221 : decode cX5_advance 221 = .ok (.aload_n 0, 1) := by decide +kernel
theorem dX5_advance_222 : decode cX5_advance 222 = .ok (.getfield 197, 3) := by decide +kernel
theorem dX5_advance_225 : decode cX5_advance 225 = .ok (.isub, 1) := by decide +kernel
theorem dX5_advance_226 : decode cX5_advance 226 = .ok (.aload_n 0, 1) := by decide +kernel
theorem dX5_advance_227 : decode cX5_advance 227 = .ok (.getfield 71, 3) := by decide +kernel
theorem dX5_advance_230 : decode cX5_advance 230 = .ok (.iconst 1, 1) := by decide +kernel
theorem dX5_advance_231 : decode cX5_advance 231 = .ok (.if_icmp .ne 8, 3) := by decide +kernel
theorem dX5_advance_234 : decode cX5_advance 234 = .ok (.bipush 8, 2) := by decide +kernel
theorem dX5_advance_236 : decode cX5_advance 236 = .ok (.goto 4, 3) := by decide +kernel
theorem dX5_advance_239 : decode cX5_advance 239 = .ok (.iconst 4, 1) := by decide +kernel
theorem dX5_advance_240 : decode cX5_advance 240 = .ok (.if_icmp .le 8, 3) := by decide +kernel
theorem dX5_advance_243 : decode cX5_advance 243 = .ok (.aload_n 0, 1) := by decide +kernel
theorem dX5_advance_244 : decode cX5_advance 244 = .ok (.iconst 4, 1) := by decide +kernel
theorem dX5_advance_245 : decode cX5_advance 245 = .ok (.putfield 71, 3) := by decide +kernel
theorem dX5_advance_248 : decode cX5_advance 248 = .ok (.return_, 1) := by decide +kernel
theorem dX5_kindOfSign_0 : decode cX5_kindOfSign 0 = .ok (.iload_n 0, 1) := by decide +kernel
theorem dX5_kindOfSign_1 : decode cX5_kindOfSign 1 = .ok (.bipush 32, 2) := by decide +kernel
theorem dX5_kindOfSign_3 : decode cX5_kindOfSign 3 = .ok (.if_icmp .eq 9, 3) := by decide +kernel
theorem dX5_kindOfSign_6 : decode cX5_kindOfSign 6 = .ok (.iload_n 0, 1) := by decide +kernel
theorem dX5_kindOfSign_7 : decode cX5_kindOfSign 7 = .ok (.bipush 10, 2) := by decide +kernel
theorem dX5_kindOfSign_9 : decode cX5_kindOfSign 9 = .ok (.if_icmp .ne 5, 3) := by decide +kernel
theorem dX5_kindOfSign_12 : decode cX5_kindOfSign 12 = .ok (.iconst 5, 1) := by decide +kernel
theorem dX5_kindOfSign_13 : decode cX5_kindOfSign 13 = .ok (.ireturn, 1) := by decide +kernel
theorem dX5_kindOfSign_14 : decode cX5_kindOfSign 14 = .ok (.iload_n 0, 1) := by decide +kernel
theorem dX5_kindOfSign_15 : decode cX5_kindOfSign 15 = .ok (.bipush 97, 2) := by decide +kernel
theorem dX5_kindOfSign_17 : decode cX5_kindOfSign 17 = .ok (.if_icmp .lt 11, 3) := by decide +kernel
theorem dX5_kindOfSign_20 : decode cX5_kindOfSign 20 = .ok (.iload_n 0, 1) := by decide +kernel
theorem dX5_kindOfSign_21 : decode cX5_kindOfSign 21 = .ok (.bipush 122, 2) := by decide +kernel
theorem dX5_kindOfSign_23 : decode cX5_kindOfSign 23 = .ok (.if_icmp .gt 5, 3) := by decide +kernel
theorem dX5_kindOfSign_26 : decode cX5_kindOfSign 26 = .ok (.iconst 1, 1) := by decide +kernel
theorem dX5_kindOfSign_27 : decode cX5_kindOfSign 27 = .ok (.ireturn, 1) := by decide +kernel
theorem dX5_kindOfSign_28 : decode cX5_kindOfSign 28 = .ok (.iload_n 0, 1) := by decide +kernel
theorem dX5_kindOfSign_29 : decode cX5_kindOfSign 29 = .ok (.bipush 48, 2) := by decide +kernel
theorem dX5_kindOfSign_31 : decode cX5_kindOfSign 31 = .ok (.if_icmp .lt 11, 3) := by decide +kernel
theorem dX5_kindOfSign_34 : decode cX5_kindOfSign 34 = .ok (.iload_n 0, 1) := by decide +kernel
theorem dX5_kindOfSign_35 : decode cX5_kindOfSign 35 = .ok (.bipush 57, 2) := by decide +kernel
theorem dX5_kindOfSign_37 : decode cX5_kindOfSign 37 = .ok (.if_icmp .gt 5, 3) := by decide +kernel
theorem dX5_kindOfSign_40 : decode cX5_kindOfSign 40 = .ok (.iconst 2, 1) := by decide +kernel
theorem dX5_kindOfSign_41 : decode cX5_kindOfSign 41 = .ok (.ireturn, 1) := by decide +kernel
theorem dX5_kindOfSign_42 : decode cX5_kindOfSign 42 = .ok (.iload_n 0, 1) := by decide +kernel
theorem dX5_kindOfSign_43 : decode cX5_kindOfSign 43 = .ok (.bipush 59, 2) := by decide +kernel
theorem dX5_kindOfSign_45 : decode cX5_kindOfSign 45 = .ok (.if_icmp .ne 7, 3) := by decide +kernel
theorem dX5_kindOfSign_48 : decode cX5_kindOfSign 48 = .ok (.iconst 3, 1) := by decide +kernel
theorem dX5_kindOfSign_49 : decode cX5_kindOfSign 49 = .ok (.goto 4, 3) := by decide +kernel
theorem dX5_kindOfSign_52 : decode cX5_kindOfSign 52 = .ok (.iconst 4, 1) := by decide +kernel
theorem dX5_kindOfSign_53 : decode cX5_kindOfSign 53 = .ok (.ireturn, 1) := by decide +kernel
theorem dX6_init_0 : decode cX6_init 0 = .ok (.aload_n 0, 1) := by decide +kernel
theorem dX6_init_1 : decode cX6_init 1 = .ok (.invokespecial 3, 3) := by decide +kernel
theorem dX6_init_4 : decode cX6_init 4 = .ok (.aload_n 0, 1) := by decide +kernel
theorem dX6_init_5 : decode cX6_init 5 = .ok (.bipush 8, 2) := by decide +kernel
theorem dX6_init_7 : decode cX6_init 7 = .ok (.newarray .int, 2) := by decide +kernel
theorem dX6_init_9 : decode cX6_init 9 = .ok (.putfield 9, 3) := by decide +kernel
theorem dX6_init_12 : decode cX6_init 12 = .ok (.aload_n 0, 1) := by decide +kernel
theorem dX6_init_13 : decode cX6_init 13 = .ok (.bipush 8, 2) := by decide +kernel
theorem dX6_init_15 : decode cX6_init 15 = .ok (.newarray .int, 2) := by decide +kernel
theorem dX6_init_17 : decode cX6_init 17 = .ok (.putfield 15, 3) := by decide +kernel
theorem dX6_init_20 : decode cX6_init 20 = .ok (.aload_n 0, 1) := by decide +kernel
theorem dX6_init_21 : decode cX6_init 21 = .ok (.bipush 12, 2) := by decide +kernel
theorem dX6_init_23 : decode cX6_init 23 = .ok (.newarray .int, 2) := by decide +kernel
theorem dX6_init_25 : decode cX6_init 25 = .ok (.putfield 18, 3) := by decide +kernel
theorem dX6_init_28 : decode cX6_init 28 = .ok (.aload_n 0, 1) := by decide +kernel
theorem dX6_init_29 : decode cX6_init 29 = .ok (.bipush 12, 2) := by decide +kernel
theorem dX6_init_31 : decode cX6_init 31 = .ok (.newarray .int, 2) := by decide +kernel
theorem dX6_init_33 : decode cX6_init 33 = .ok (.putfield 21, 3) := by decide +kernel
theorem dX6_init_36 : decode cX6_init 36 = .ok (.aload_n 0, 1) := by decide +kernel
theorem dX6_init_37 : decode cX6_init 37 = .ok (.bipush 12, 2) := by decide +kernel
theorem dX6_init_39 : decode cX6_init 39 = .ok (.newarray .int, 2) := by decide +kernel
theorem dX6_init_41 : decode cX6_init 41 = .ok (.putfield 24, 3) := by decide +kernel
theorem dX6_init_44 : decode cX6_init 44 = .ok (.aload_n 0, 1) := by decide +kernel
theorem dX6_init_45 : decode cX6_init 45 = .ok (.bipush 12, 2) := by decide +kernel
theorem dX6_init_47 : decode cX6_init 47 = .ok (.newarray .long, 2) := by decide +kernel
theorem dX6_init_49 : decode cX6_init 49 = .ok (.putfield 27, 3) := by decide +kernel
theorem dX6_init_52 : decode cX6_init 52 = .ok (.aload_n 0, 1) := by decide +kernel
theorem dX6_init_53 : decode cX6_init 53 = .ok (.new 31, 3) := by decide +kernel
theorem dX6_init_56 : decode cX6_init 56 = .ok (.dup, 1) := by decide +kernel
theorem dX6_init_57 : decode cX6_init 57 = .ok (.invokespecial 33, 3) := by decide +kernel
theorem dX6_init_60 : decode cX6_init 60 = .ok (.putfield 34, 3) := by decide +kernel
theorem dX6_init_63 : decode cX6_init 63 = .ok (.aload_n 0, 1) := by decide +kernel
theorem dX6_init_64 : decode cX6_init 64 = .ok (.new 38, 3) := by decide +kernel
theorem dX6_init_67 : decode cX6_init 67 = .ok (.dup, 1) := by decide +kernel
theorem dX6_init_68 : decode cX6_init 68 = .ok (.invokespecial 40, 3) := by decide +kernel
theorem dX6_init_71 : decode cX6_init 71 = .ok (.putfield 41, 3) := by decide +kernel
theorem dX6_init_74 : decode cX6_init 74 = .ok (.return_, 1) := by decide +kernel
theorem dX6_begin_0 : decode cX6_begin 0 = .ok (.aload_n 0, 1) := by decide +kernel
theorem dX6_begin_1 : decode cX6_begin 1 = .ok (.iconst 0, 1) := by decide +kernel
theorem dX6_begin_2 : decode cX6_begin 2 = .ok (.putfield 45, 3) := by decide +kernel
theorem dX6_begin_5 : decode cX6_begin 5 = .ok (.aload_n 0, 1) := by decide +kernel
theorem dX6_begin_6 : decode cX6_begin 6 = .ok (.aload_n 1, 1) := by decide +kernel
theorem dX6_begin_7 : decode cX6_begin 7 = .ok (.getfield 49, 3) := by decide +kernel
theorem dX6_begin_10 : decode cX6_begin 10 = .ok (.putfield 54, 3) := by decide +kernel
theorem dX6_begin_13 : decode cX6_begin 13 = .ok (.iconst 0, 1) := by decide +kernel
theorem dX6_begin_14 : decode cX6_begin 14 = .ok (.istore_n 2, 1) := by decide +kernel
theorem dX6_begin_15 : decode cX6_begin 15 = .ok (.iload_n 2, 1) := by decide +kernel
theorem dX6_begin_16 : decode cX6_begin 16 = .ok (.bipush 8, 2) := by decide +kernel
theorem dX6_begin_18 : decode cX6_begin 18 = .ok (.if_icmp .ge 40, 3) := by decide +kernel
theorem dX6_begin_21 : decode cX6_begin 21 = .ok (.aload_n 0, 1) := by decide +kernel
theorem dX6_begin_22 : decode cX6_begin 22 = .ok (.getfield 9, 3) := by decide +kernel
theorem dX6_begin_25 : decode cX6_begin 25 = .ok (.iload_n 2, 1) := by decide +kernel
theorem dX6_begin_26 : decode cX6_begin 26 = .ok (.iload_n 2, 1) := by decide +kernel
theorem dX6_begin_27 : decode cX6_begin 27 = .ok (.aload_n 1, 1) := by decide +kernel
theorem dX6_begin_28 : decode cX6_begin 28 = .ok (.getfield 57, 3) := by decide +kernel
theorem dX6_begin_31 : decode cX6_begin 31 = .ok (.if_icmp .ge 12, 3) := by decide +kernel
theorem dX6_begin_34 : decode cX6_begin 34 = .ok (.aload_n 1, 1) := by decide +kernel
theorem dX6_begin_35 : decode cX6_begin 35 = .ok (.getfield 60, 3) := by decide +kernel
theorem dX6_begin_38 : decode cX6_begin 38 = .ok (.iload_n 2, 1) := by decide +kernel
theorem dX6_begin_39 : decode cX6_begin 39 = .ok (.iaload, 1) := by decide +kernel
theorem dX6_begin_40 : decode cX6_begin 40 = .ok (.goto 4, 3) := by decide +kernel
theorem dX6_begin_43 : decode cX6_begin 43 = .ok (.iconst (-1), 1) := by decide +kernel
theorem dX6_begin_44 : decode cX6_begin 44 = .ok (.iastore, 1) := by decide +kernel
theorem dX6_begin_45 : decode cX6_begin 45 = .ok (.aload_n 0, 1) := by decide +kernel
theorem dX6_begin_46 : decode cX6_begin 46 = .ok (.getfield 15, 3) := by decide +kernel
theorem dX6_begin_49 : decode cX6_begin 49 = .ok (.iload_n 2, 1) := by decide +kernel
theorem dX6_begin_50 : decode cX6_begin 50 = .ok (.iconst (-1), 1) := by decide +kernel
theorem dX6_begin_51 : decode cX6_begin 51 = .ok (.iastore, 1) := by decide +kernel
theorem dX6_begin_52 : decode cX6_begin 52 = .ok (.iinc 2 1, 3) := by decide +kernel
theorem dX6_begin_55 : decode cX6_begin 55 = .ok (.goto (-40), 3) := by decide +kernel
theorem dX6_begin_58 : decode cX6_begin 58 = .ok (.iconst 0, 1) := by decide +kernel
theorem dX6_begin_59 : decode cX6_begin 59 = .ok (.istore_n 2, 1) := by decide +kernel
theorem dX6_begin_60 : decode cX6_begin 60 = .ok (.iload_n 2, 1) := by decide +kernel
theorem dX6_begin_61 : decode cX6_begin 61 = .ok (.bipush 12, 2) := by decide +kernel
theorem dX6_begin_63 : decode cX6_begin 63 = .ok (.if_icmp .ge 37, 3) := by decide +kernel
theorem dX6_begin_66 : decode cX6_begin 66 = .ok (.aload_n 0, 1) := by decide +kernel
theorem dX6_begin_67 : decode cX6_begin 67 = .ok (.getfield 18, 3) := by decide +kernel
theorem dX6_begin_70 : decode cX6_begin 70 = .ok (.iload_n 2, 1) := by decide +kernel
theorem dX6_begin_71 : decode cX6_begin 71 = .ok (.iconst (-1), 1) := by decide +kernel
theorem dX6_begin_72 : decode cX6_begin 72 = .ok (.iastore, 1) := by decide +kernel
theorem dX6_begin_73 : decode cX6_begin 73 = .ok (.aload_n 0, 1) := by decide +kernel
theorem dX6_begin_74 : decode cX6_begin 74 = .ok (.getfield 21, 3) := by decide +kernel
theorem dX6_begin_77 : decode cX6_begin 77 = .ok (.iload_n 2, 1) := by decide +kernel
theorem dX6_begin_78 : decode cX6_begin 78 = .ok (.iconst 0, 1) := by decide +kernel
theorem dX6_begin_79 : decode cX6_begin 79 = .ok (.iastore, 1) := by decide +kernel
theorem dX6_begin_80 : decode cX6_begin 80 = .ok (.aload_n 0, 1) := by decide +kernel
theorem dX6_begin_81 : decode cX6_begin 81 = .ok (.getfield 24, 3) := by decide +kernel
theorem dX6_begin_84 : decode cX6_begin 84 = .ok (.iload_n 2, 1) := by decide +kernel
theorem dX6_begin_85 : decode cX6_begin 85 = .ok (.iconst 0, 1) := by decide +kernel
theorem dX6_begin_86 : decode cX6_begin 86 = .ok (.iastore, 1) := by decide +kernel
theorem dX6_begin_87 : decode cX6_begin 87 = .ok (.aload_n 0, 1) := by decide +kernel
theorem dX6_begin_88 : decode cX6_begin 88 = .ok (.getfield 27, 3) := by decide +kernel
theorem dX6_begin_91 : decode cX6_begin 91 = .ok (.iload_n 2, 1) := by decide +kernel
theorem dX6_begin_92 : decode cX6_begin 92 = .ok (.lconst 0, 1) := by decide +kernel
theorem dX6_begin_93 : decode cX6_begin 93 = .ok (.lastore, 1) := by decide +kernel
theorem dX6_begin_94 : decode cX6_begin 94 = .ok (.iinc 2 1, 3) := by decide +kernel
theorem dX6_begin_97 : decode cX6_begin 97 = .ok (.goto (-37), 3) := by decide +kernel
theorem dX6_begin_100 : decode cX6_begin 100 = .ok (.aload_n 0, 1) := by decide +kernel
theorem dX6_begin_101 : decode cX6_begin 101 = .ok (.getfield 34, 3) := by decide +kernel
theorem dX6_begin_104 : decode cX6_begin 104 = .ok (.invokevirtual 63, 3) := by decide +kernel
theorem dX6_begin_107 : decode cX6_begin 107 = .ok (.aload_n 0, 1) := by decide +kernel
theorem dX6_begin_108 : decode cX6_begin 108 = .ok (.getfield 41, 3) := by decide +kernel
theorem dX6_begin_111 : decode cX6_begin 111 = .ok (.invokevirtual 66, 3) := by decide +kernel
theorem dX6_begin_114 : decode cX6_begin 114 = .ok (.return_, 1) := by decide +kernel
theorem dX6_copyFrom_0 : decode cX6_copyFrom 0 = .ok (.aload_n 0, 1) := by decide +kernel
theorem dX6_copyFrom_1 : decode cX6_copyFrom 1 = .ok (.aload_n 1, 1) := by decide +kernel
theorem dX6_copyFrom_2 : decode cX6_copyFrom 2 = .ok (.getfield 45, 3) := by decide +kernel
theorem dX6_copyFrom_5 : decode cX6_copyFrom 5 = .ok (.putfield 45, 3) := by decide +kernel
theorem dX6_copyFrom_8 : decode cX6_copyFrom 8 = .ok (.aload_n 0, 1) := by decide +kernel
theorem dX6_copyFrom_9 : decode cX6_copyFrom 9 = .ok (.aload_n 1, 1) := by decide +kernel
theorem dX6_copyFrom_10 : decode cX6_copyFrom 10 = .ok (.getfield 54, 3) := by decide +kernel
theorem dX6_copyFrom_13 : decode cX6_copyFrom 13 = .ok (.putfield 54, 3) := by decide +kernel
theorem dX6_copyFrom_16 : decode cX6_copyFrom 16 = .ok (.aload_n 1, 1) := by decide +kernel
theorem dX6_copyFrom_17 : decode cX6_copyFrom 17 = .ok (.getfield 9, 3) := by decide +kernel
theorem dX6_copyFrom_20 : decode cX6_copyFrom 20 = .ok (.iconst 0, 1) := by decide +kernel
theorem dX6_copyFrom_21 : decode cX6_copyFrom 21 = .ok (.aload_n 0, 1) := by decide +kernel
theorem dX6_copyFrom_22 : decode cX6_copyFrom 22 = .ok (.getfield 9, 3) := by decide +kernel
theorem dX6_copyFrom_25 : decode cX6_copyFrom 25 = .ok (.iconst 0, 1) := by decide +kernel
theorem dX6_copyFrom_26 : decode cX6_copyFrom 26 = .ok (.bipush 8, 2) := by decide +kernel
theorem dX6_copyFrom_28 : decode cX6_copyFrom 28 = .ok (.invokestatic 67, 3) := by decide +kernel
theorem dX6_copyFrom_31 : decode cX6_copyFrom 31 = .ok (.aload_n 1, 1) := by decide +kernel
theorem dX6_copyFrom_32 : decode cX6_copyFrom 32 = .ok (.getfield 15, 3) := by decide +kernel
theorem dX6_copyFrom_35 : decode cX6_copyFrom 35 = .ok (.iconst 0, 1) := by decide +kernel
theorem dX6_copyFrom_36 : decode cX6_copyFrom 36 = .ok (.aload_n 0, 1) := by decide +kernel
theorem dX6_copyFrom_37 : decode cX6_copyFrom 37 = .ok (.getfield 15, 3) := by decide +kernel
theorem dX6_copyFrom_40 : decode cX6_copyFrom 40 = .ok (.iconst 0, 1) := by decide +kernel
theorem dX6_copyFrom_41 : decode cX6_copyFrom 41 = .ok (.bipush 8, 2) := by decide +kernel
theorem dX6_copyFrom_43 : decode cX6_copyFrom 43 = .ok (.invokestatic 67, 3) := by decide +kernel
theorem dX6_copyFrom_46 : decode cX6_copyFrom 46 = .ok (.aload_n 1, 1) := by decide +kernel
theorem dX6_copyFrom_47 : decode cX6_copyFrom 47 = .ok (.getfield 18, 3) := by decide +kernel
theorem dX6_copyFrom_50 : decode cX6_copyFrom 50 = .ok (.iconst 0, 1) := by decide +kernel
theorem dX6_copyFrom_51 : decode cX6_copyFrom 51 = .ok (.aload_n 0, 1) := by decide +kernel
theorem dX6_copyFrom_52 : decode cX6_copyFrom 52 = .ok (.getfield 18, 3) := by decide +kernel
theorem dX6_copyFrom_55 : decode cX6_copyFrom 55 = .ok (.iconst 0, 1) := by decide +kernel
theorem dX6_copyFrom_56 : decode cX6_copyFrom 56 = .ok (.bipush 12, 2) := by decide +kernel
theorem dX6_copyFrom_58 : decode cX6_copyFrom 58 = .ok (.invokestatic 67, 3) := by decide +kernel
theorem dX6_copyFrom_61 : decode cX6_copyFrom 61 = .ok (.aload_n 1, 1) := by decide +kernel
theorem dX6_copyFrom_62 : decode cX6_copyFrom 62 = .ok (.getfield 21, 3) := by decide +kernel
theorem dX6_copyFrom_65 : decode cX6_copyFrom 65 = .ok (.iconst 0, 1) := by decide +kernel
theorem dX6_copyFrom_66 : decode cX6_copyFrom 66 = .ok (.aload_n 0, 1) := by decide +kernel
theorem dX6_copyFrom_67 : decode cX6_copyFrom 67 = .ok (.getfield 21, 3) := by decide +kernel
theorem dX6_copyFrom_70 : decode cX6_copyFrom 70 = .ok (.iconst 0, 1) := by decide +kernel
theorem dX6_copyFrom_71 : decode cX6_copyFrom 71 = .ok (.bipush 12, 2) := by decide +kernel
theorem dX6_copyFrom_73 : decode cX6_copyFrom 73 = .ok (.invokestatic 67, 3) := by decide +kernel
theorem dX6_copyFrom_76 : decode cX6_copyFrom 76 = .ok (.aload_n 1, 1) := by decide +kernel
theorem dX6_copyFrom_77 : decode cX6_copyFrom 77 = .ok (.getfield 24, 3) := by decide +kernel
theorem dX6_copyFrom_80 : decode cX6_copyFrom 80 = .ok (.iconst 0, 1) := by decide +kernel
theorem dX6_copyFrom_81 : decode cX6_copyFrom 81 = .ok (.aload_n 0, 1) := by decide +kernel
theorem dX6_copyFrom_82 : decode cX6_copyFrom 82 = .ok (.getfield 24, 3) := by decide +kernel
theorem dX6_copyFrom_85 : decode cX6_copyFrom 85 = .ok (.iconst 0, 1) := by decide +kernel
theorem dX6_copyFrom_86 : decode cX6_copyFrom 86 = .ok (.bipush 12, 2) := by decide +kernel
theorem dX6_copyFrom_88 : decode cX6_copyFrom 88 = .ok (.invokestatic 67, 3) := by decide +kernel
theorem dX6_copyFrom_91 : decode cX6_copyFrom 91 = .ok (.aload_n 1, 1) := by decide +kernel
theorem dX6_copyFrom_92 : decode cX6_copyFrom 92 = .ok (.getfield 27, 3) := by decide +kernel
theorem dX6_copyFrom_95 : decode cX6_copyFrom 95 = .ok (.iconst 0, 1) := by decide +kernel
theorem dX6_copyFrom_96 : decode cX6_copyFrom 96 = .ok (.aload_n 0, 1) := by decide +kernel
theorem dX6_copyFrom_97 : decode cX6_copyFrom 97 = .ok (.getfield 27, 3) := by decide +kernel
theorem dX6_copyFrom_100 : decode cX6_copyFrom 100 = .ok (.iconst 0, 1) := by decide +kernel
theorem dX6_copyFrom_101 : decode cX6_copyFrom 101 = .ok (.bipush 12, 2) := by decide +kernel
theorem dX6_copyFrom_103 : decode cX6_copyFrom 103 = .ok (.invokestatic 67, 3) := by decide +kernel
theorem dX6_copyFrom_106 : decode cX6_copyFrom 106 = .ok (.aload_n 0, 1) := by decide +kernel
theorem dX6_copyFrom_107 : decode cX6_copyFrom 107 = .ok (.getfield 34, 3) := by decide +kernel
theorem dX6_copyFrom_110 : decode cX6_copyFrom 110 = .ok (.aload_n 1, 1) := by decide +kernel
theorem dX6_copyFrom_111 : decode cX6_copyFrom 111 = .ok (.getfield 34, 3) := by decide +kernel
theorem dX6_copyFrom_114 : decode cX6_copyFrom 114 = .ok (.invokevirtual 73, 3) := by decide +kernel
theorem dX6_copyFrom_117 : decode cX6_copyFrom 117 = .ok (.aload_n 0, 1) := by decide +kernel
theorem dX6_copyFrom_118 : decode cX6_copyFrom 118 = .ok (.getfield 41, 3) := by decide +kernel
theorem dX6_copyFrom_121 : decode cX6_copyFrom 121 = .ok (.aload_n 1, 1) := by decide +kernel
theorem dX6_copyFrom_122 : decode cX6_copyFrom 122 = .ok (.getfield 41, 3) := by decide +kernel
theorem dX6_copyFrom_125 : decode cX6_copyFrom 125 = .ok (.invokevirtual 77, 3) := by decide +kernel
theorem dX6_copyFrom_128 : decode cX6_copyFrom 128 = .ok (.return_, 1) := by decide +kernel
theorem dX7_init_0 : decode cX7_init 0 = .ok (.aload_n 0, 1) := by decide +kernel
theorem dX7_init_1 : decode cX7_init 1 = .ok (.invokespecial 1, 3) := by decide +kernel
theorem dX7_init_4 : decode cX7_init 4 = .ok (.aload_n 0, 1) := by decide +kernel
theorem dX7_init_5 : decode cX7_init 5 = .ok (.new 7, 3) := by decide +kernel
theorem dX7_init_8 : decode cX7_init 8 = .ok (.dup, 1) := by decide +kernel
theorem dX7_init_9 : decode cX7_init 9 = .ok (.invokespecial 9, 3) := by decide +kernel
theorem dX7_init_12 : decode cX7_init 12 = .ok (.putfield 10, 3) := by decide +kernel
theorem dX7_init_15 : decode cX7_init 15 = .ok (.aload_n 0, 1) := by decide +kernel
theorem dX7_init_16 : decode cX7_init 16 = .ok (.new 16, 3) := by decide +kernel
theorem dX7_init_19 : decode cX7_init 19 = .ok (.dup, 1) := by decide +kernel
theorem dX7_init_20 : decode cX7_init 20 = .ok (.invokespecial 18, 3) := by decide +kernel
theorem dX7_init_23 : decode cX7_init 23 = .ok (.putfield 19, 3) := by decide +kernel
theorem dX7_init_26 : decode cX7_init 26 = .ok (.aload_n 0, 1) := by decide +kernel
theorem dX7_init_27 : decode cX7_init 27 = .ok (.new 23, 3) := by decide +kernel
theorem dX7_init_30 : decode cX7_init 30 = .ok (.dup, 1) := by decide +kernel
theorem dX7_init_31 : decode cX7_init 31 = .ok (.invokespecial 25, 3) := by decide +kernel
theorem dX7_init_34 : decode cX7_init 34 = .ok (.putfield 26, 3) := by decide +kernel
theorem dX7_init_37 : decode cX7_init 37 = .ok (.aload_n 0, 1) := by decide +kernel
theorem dX7_init_38 : decode cX7_init 38 = .ok (.iconst 2, 1) := by decide +kernel
theorem dX7_init_39 : decode cX7_init 39 = .ok (.anewarray 30, 3) := by decide +kernel
theorem dX7_init_42 : decode cX7_init 42 = .ok (.putfield 32, 3) := by decide +kernel
theorem dX7_init_45 : decode cX7_init 45 = .ok (.aload_n 0, 1) := by decide +kernel
theorem dX7_init_46 : decode cX7_init 46 = .ok (.iconst 2, 1) := by decide +kernel
theorem dX7_init_47 : decode cX7_init 47 = .ok (.newarray .boolean, 2) := by decide +kernel
theorem dX7_init_49 : decode cX7_init 49 = .ok (.putfield 36, 3) := by decide +kernel
theorem dX7_init_52 : decode cX7_init 52 = .ok (.iconst 0, 1) := by decide +kernel
theorem dX7_init_53 : decode cX7_init 53 = .ok (.istore_n 1, 1) := by decide +kernel
theorem dX7_init_54 : decode cX7_init 54 = .ok (.iload_n 1, 1) := by decide +kernel
theorem dX7_init_55 : decode cX7_init 55 = .ok (.iconst 2, 1) := by decide +kernel
theorem dX7_init_56 : decode cX7_init 56 = .ok (.if_icmp .ge 22, 3) := by decide +kernel
theorem dX7_init_59 : decode cX7_init 59 = .ok (.aload_n 0, 1) := by decide +kernel
theorem dX7_init_60 : decode cX7_init 60 = .ok (.getfield 32, 3) := by decide +kernel
theorem dX7_init_63 : decode cX7_init 63 = .ok (.iload_n 1, 1) := by decide +kernel
theorem dX7_init_64 : decode cX7_init 64 = .ok (.new 30, 3) := by decide +kernel
theorem dX7_init_67 : decode cX7_init 67 = .ok (.dup, 1) := by decide +kernel
theorem dX7_init_68 : decode cX7_init 68 = .ok (.invokespecial 40, 3) := by decide +kernel
theorem dX7_init_71 : decode cX7_init 71 = .ok (.aastore, 1) := by decide +kernel
theorem dX7_init_72 : decode cX7_init 72 = .ok (.iinc 1 1, 3) := by decide +kernel
theorem dX7_init_75 : decode cX7_init 75 = .ok (.goto (-21), 3) := by decide +kernel
theorem dX7_init_78 : decode cX7_init 78 = .ok (.return_, 1) := by decide +kernel
theorem dX7_append_0 : decode cX7_append 0 = .ok (.aload_n 0, 1) := by decide +kernel
theorem dX7_append_1 : decode cX7_append 1 = .ok (.getfield 10, 3) := by decide +kernel
theorem dX7_append_4 : decode cX7_append 4 = .ok (.bipush 20, 2) := by decide +kernel
theorem dX7_append_6 : decode cX7_append 6 = .ok (.invokevirtual 41, 3) := by decide +kernel
theorem dX7_append_9 : decode cX7_append 9 = .ok (.ifCond .ne 5, 3) := by decide +kernel
theorem dX7_append_12 : decode cX7_append 12 = .ok (.iconst (-1), 1) := by decide +kernel
theorem dX7_append_13 : decode cX7_append 13 = .ok (.ireturn, 1) := by decide +kernel
theorem dX7_append_14 : decode cX7_append 14 = .ok (.aload_n 0, 1) := by decide +kernel
theorem dX7_append_15 : decode cX7_append 15 = .ok (.getfield 10, 3) := by decide +kernel
theorem dX7_append_18 : decode cX7_append 18 = .ok (.iload_n 1, 1) := by decide +kernel
theorem dX7_append_19 : decode cX7_append 19 = .ok (.invokevirtual 45, 3) := by decide +kernel
theorem dX7_append_22 : decode cX7_append 22 = .ok (.aload_n 0, 1) := by decide +kernel
theorem dX7_append_23 : decode cX7_append 23 = .ok (.getfield 10, 3) := by decide +kernel
theorem dX7_append_26 : decode cX7_append 26 = .ok (.iload_n 2, 1) := by decide +kernel
theorem dX7_append_27 : decode cX7_append 27 = .ok (.invokevirtual 45, 3) := by decide +kernel
theorem dX7_append_30 : decode cX7_append 30 = .ok (.aload_n 0, 1) := by decide +kernel
theorem dX7_append_31 : decode cX7_append 31 = .ok (.getfield 10, 3) := by decide +kernel
theorem dX7_append_34 : decode cX7_append 34 = .ok (.iload_n 3, 1) := by decide +kernel
theorem dX7_append_35 : decode cX7_append 35 = .ok (.invokevirtual 45, 3) := by decide +kernel
theorem dX7_append_38 : decode cX7_append 38 = .ok (.aload_n 0, 1) := by decide +kernel
theorem dX7_append_39 : decode cX7_append 39 = .ok (.getfield 10, 3) := by decide +kernel
theorem dX7_append_42 : decode cX7_append 42 = .ok (.iload 4, 2) := by decide +kernel
theorem dX7_append_44 : decode cX7_append 44 = .ok (.invokevirtual 45, 3) := by decide +kernel
theorem dX7_append_47 : decode cX7_append 47 = .ok (.aload_n 0, 1) := by decide +kernel
theorem dX7_append_48 : decode cX7_append 48 = .ok (.getfield 10, 3) := by decide +kernel
theorem dX7_append_51 : decode cX7_append 51 = .ok (.iload 5, 2) := by decide +kernel
theorem dX7_append_53 : decode cX7_append 53 = .ok (.invokevirtual 45, 3) := by decide +kernel
theorem dX7_append_56 : decode cX7_append 56 = .ok (.aload_n 0, 1) := by decide +kernel
theorem dX7_append_57 : decode cX7_append 57 = .ok (.getfield 10, 3) := by decide +kernel
theorem dX7_append_60 : decode cX7_append 60 = .ok (.getfield 49, 3) := by decide +kernel
theorem dX7_append_63 : decode cX7_append 63 = .ok (.ireturn, 1) := by decide +kernel
theorem dX7_parse_0 : decode cX7_parse 0 = .ok (.iload_n 1, 1) := by decide +kernel
theorem dX7_parse_1 : decode cX7_parse 1 = .ok (.ifCond .lt 14, 3) := by decide +kernel
theorem dX7_parse_4 : decode cX7_parse 4 = .ok (.iload_n 1, 1) := by decide +kernel
theorem dX7_parse_5 : decode cX7_parse 5 = .ok (.aload_n 0, 1) := by decide +kernel
theorem dX7_parse_6 : decode cX7_parse 6 = .ok (.getfield 10, 3) := by decide +kernel
theorem dX7_parse_9 : decode cX7_parse 9 = .ok (.getfield 49, 3) := by decide +kernel
theorem dX7_parse_12 : decode cX7_parse 12 = .ok (.if_icmp .le 13, 3) := by decide +kernel
theorem dX7_parse_15 : decode cX7_parse 15 = .ok (.new 53, 3) := by decide +kernel
theorem dX7_parse_18 : decode cX7_parse 18 = .ok (.dup, 1) := by decide +kernel
theorem dX7_parse_19 : decode cX7_parse 19 = .ok (.ldc 55, 2) := by decide +kernel
theorem dX7_parse_21 : decode cX7_parse 21 = .ok (.invokespecial 57, 3) := by decide +kernel
theorem dX7_parse_24 : decode cX7_parse 24 = .ok (.athrow, 1) := by decide +kernel
theorem dX7_parse_25 : decode cX7_parse 25 = .ok (.aload_n 0, 1) := by decide +kernel
theorem dX7_parse_26 : decode cX7_parse 26 = .ok (.getfield 10, 3) := by decide +kernel
theorem dX7_parse_29 : decode cX7_parse 29 = .ok (.iload_n 1, 1) := by decide +kernel
theorem dX7_parse_30 : decode cX7_parse 30 = .ok (.invokevirtual 60, 3) := by decide +kernel
theorem dX7_parse_33 : decode cX7_parse 33 = .ok (.istore_n 2, 1) := by decide +kernel
theorem dX7_parse_34 : decode cX7_parse 34 = .ok (.aload_n 0, 1) := by decide +kernel
theorem dX7_parse_35 : decode cX7_parse 35 = .ok (.getfield 10, 3) := by decide +kernel
theorem dX7_parse_38 : decode cX7_parse 38 = .ok (.iconst 0, 1) := by decide +kernel
theorem dX7_parse_39 : decode cX7_parse 39 = .ok (.putfield 49, 3) := by decide +kernel
theorem dX7_parse_42 : decode cX7_parse 42 = .ok (.iload_n 2, 1) := by decide +kernel
theorem dX7_parse_43 : decode cX7_parse 43 = .ok (.ifCond .ne 11, 3) := by decide +kernel
theorem dX7_parse_46 : decode cX7_parse 46 = .ok (.aload_n 0, 1) := by decide +kernel
theorem dX7_parse_47 : decode cX7_parse 47 = .ok (.getfield 10, 3) := by decide +kernel
theorem dX7_parse_50 : decode cX7_parse 50 = .ok (.invokevirtual 63, 3) := by decide +kernel
theorem dX7_parse_53 : decode cX7_parse 53 = .ok (.ireturn, 1) := by decide +kernel
theorem dX7_parse_54 : decode cX7_parse 54 = .ok (.aload_n 0, 1) := by decide +kernel
theorem dX7_parse_55 : decode cX7_parse 55 = .ok (.getfield 19, 3) := by decide +kernel
theorem dX7_parse_58 : decode cX7_parse 58 = .ok (.aload_n 0, 1) := by decide +kernel
theorem dX7_parse_59 : decode cX7_parse 59 = .ok (.getfield 10, 3) := by decide +kernel
theorem dX7_parse_62 : decode cX7_parse 62 = .ok (.aload_n 0, 1) := by decide +kernel
theorem dX7_parse_63 : decode cX7_parse 63 = .ok (.getfield 19, 3) := by decide +kernel
theorem dX7_parse_66 : decode cX7_parse 66 = .ok (.getfield 67, 3) := by decide +kernel
theorem dX7_parse_69 : decode cX7_parse 69 = .ok (.invokevirtual 71, 3) := by decide +kernel
theorem dX7_parse_72 : decode cX7_parse 72 = .ok (.invokevirtual 75, 3) := by decide +kernel
theorem dX7_parse_75 : decode cX7_parse 75 = .ok (.aload_n 0, 1) := by decide +kernel
theorem dX7_parse_76 : decode cX7_parse 76 = .ok (.getfield 26, 3) := by decide +kernel
theorem dX7_parse_79 : decode cX7_parse 79 = .ok (.invokevirtual 79, 3) := by decide +kernel
theorem dX7_parse_82 : decode cX7_parse 82 = .ok (.iconst 0, 1) := by decide +kernel
theorem dX7_parse_83 : decode cX7_parse 83 = .ok (.istore_n 3, 1) := by decide +kernel
theorem dX7_parse_84 : decode cX7_parse 84 = .ok (.iload_n 3, 1) := by decide +kernel
theorem dX7_parse_85 : decode cX7_parse 85 = .ok (.iconst 2, 1) := by decide +kernel
theorem dX7_parse_86 : decode cX7_parse 86 = .ok (.if_icmp .ge 16, 3) := by decide +kernel
theorem dX7_parse_89 : decode cX7_parse 89 = .ok (.aload_n 0, 1) := by decide +kernel
theorem dX7_parse_90 : decode cX7_parse 90 = .ok (.getfield 36, 3) := by decide +kernel
theorem dX7_parse_93 : decode cX7_parse 93 = .ok (.iload_n 3, 1) := by decide +kernel
theorem dX7_parse_94 : decode cX7_parse 94 = .ok (.iconst 0, 1) := by decide +kernel
theorem dX7_parse_95 : decode cX7_parse 95 = .ok (.bastore, 1) := by decide +kernel
theorem dX7_parse_96 : decode cX7_parse 96 = .ok (.iinc 3 1, 3) := by decide +kernel
theorem dX7_parse_99 : decode cX7_parse 99 = .ok (.goto (-15), 3) := by decide +kernel
theorem dX7_parse_102 : decode cX7_parse 102 = .ok (.aload_n 0, 1) := by decide +kernel
theorem dX7_parse_103 : decode cX7_parse 103 = .ok (.getfield 19, 3) := by decide +kernel
theorem dX7_parse_106 : decode cX7_parse 106 = .ok (.getfield 67, 3) := by decide +kernel
theorem dX7_parse_109 : decode cX7_parse 109 = .ok (.getfield 82, 3) := by decide +kernel
theorem dX7_parse_112 : decode cX7_parse 112 = .ok (.ireturn, 1) := by decide +kernel
theorem dX7_size_0 : decode cX7_size 0 = .ok (.iload_n 1, 1) := by decide +kernel
theorem dX7_size_1 : decode cX7_size 1 = .ok (.tableswitch 159 0 9 #[55, 66, 77, 88, 99, 110, 121, 129, 140, 151], 55) := by decide +kernel
theorem dX7_size_56 : decode cX7_size 56 = .ok (.aload_n 0, 1) := by decide +kernel
theorem dX7_size_57 : decode cX7_size 57 = .ok (.getfield 19, 3) := by decide +kernel
theorem dX7_size_60 : decode cX7_size 60 = .ok (.getfield 67, 3) := by decide +kernel
theorem dX7_size_63 : decode cX7_size 63 = .ok (.getfield 87, 3) := by decide +kernel
theorem dX7_size_66 : decode cX7_size 66 = .ok (.ireturn, 1) := by decide +kernel
theorem dX7_size_67 : decode cX7_size 67 = .ok (.aload_n 0, 1) := by decide +kernel
theorem dX7_size_68 : decode cX7_size 68 = .ok (.getfield 19, 3) := by decide +kernel
theorem dX7_size_71 : decode cX7_size 71 = .ok (.getfield 67, 3) := by decide +kernel
theorem dX7_size_74 : decode cX7_size 74 = .ok (.getfield 90, 3) := by decide +kernel
theorem dX7_size_77 : decode cX7_size 77 = .ok (.ireturn, 1) := by decide +kernel
theorem dX7_size_78 : decode cX7_size 78 = .ok (.aload_n 0, 1) := by decide +kernel
theorem dX7_size_79 : decode cX7_size 79 = .ok (.getfield 19, 3) := by decide +kernel
theorem dX7_size_82 : decode cX7_size 82 = .ok (.getfield 67, 3) := by decide +kernel
theorem dX7_size_85 : decode cX7_size 85 = .ok (.getfield 82, 3) := by decide +kernel
theorem dX7_size_88 : decode cX7_size 88 = .ok (.ireturn, 1) := by decide +kernel
theorem dX7_size_89 : decode cX7_size 89 = .ok (.aload_n 0, 1) := by decide +kernel
theorem dX7_size_90 : decode cX7_size 90 = .ok (.getfield 19, 3) := by decide +kernel
theorem dX7_size_93 : decode cX7_size 93 = .ok (.getfield 67, 3) := by decide +kernel
theorem dX7_size_96 : decode cX7_size 96 = .ok (.getfield 93, 3) := by decide +kernel
theorem dX7_size_99 : decode cX7_size 99 = .ok (.ireturn, 1) := by decide +kernel
theorem dX7_size_100 : decode cX7_size 100 = .ok (.aload_n 0, 1) := by decide +kernel
theorem dX7_size_101 : decode cX7_size 101 = .ok (.getfield 19, 3) := by decide +kernel
theorem dX7_size_104 : decode cX7_size 104 = .ok (.getfield 67, 3) := by decide +kernel
theorem dX7_size_107 : decode cX7_size 107 = .ok (.getfield 96, 3) := by decide +kernel
theorem dX7_size_110 : decode cX7_size 110 = .ok (.ireturn, 1) := by decide +kernel
theorem dX7_size_111 : decode cX7_size 111 = .ok (.aload_n 0, 1) := by decide +kernel
theorem dX7_size_112 : decode cX7_size 112 = .ok (.getfield 19, 3) := by decide +kernel
theorem dX7_size_115 : decode cX7_size 115 = .ok (.getfield 99, 3) := by decide +kernel
theorem dX7_size_118 : decode cX7_size 118 = .ok (.getfield 103, 3) := by decide +kernel
theorem dX7_size_121 : decode cX7_size 121 = .ok (.ireturn, 1) := by decide +kernel
theorem dX7_size_122 : decode cX7_size 122 = .ok (.aload_n 0, 1) := by decide +kernel
theorem dX7_size_123 : decode cX7_size 123 = .ok (.getfield 19, 3) := by decide +kernel
theorem dX7_size_126 : decode cX7_size 126 = .ok (.invokevirtual 106, 3) := by decide +kernel
theorem dX7_size_129 : decode cX7_size 129 = .ok (.ireturn, 1) := by decide +kernel
theorem dX7_size_130 : decode cX7_size 130 = .ok (.aload_n 0, 1) := by decide +kernel
theorem dX7_size_131 : decode cX7_size 131 = .ok (.getfield 19, 3) := by decide +kernel
theorem dX7_size_134 : decode cX7_size 134 = .ok (.getfield 99, 3) := by decide +kernel
theorem dX7_size_137 : decode cX7_size 137 = .ok (.getfield 109, 3) := by decide +kernel
theorem dX7_size_140 : decode cX7_size 140 = .ok (.ireturn, 1) := by decide +kernel
theorem dX7_size_141 : decode cX7_size 141 = .ok (.aload_n 0, 1) := by decide +kernel
theorem dX7_size_142 : decode cX7_size 142 = .ok (.getfield 19, 3) := by decide +kernel
theorem dX7_size_145 : decode cX7_size 145 = .ok (.getfield 67, 3) := by decide +kernel
theorem dX7_size_148 : decode cX7_size 148 = .ok (.getfield 112, 3) := by decide +kernel
theorem dX7_size_151 : decode cX7_size 151 = .ok (.ireturn, 1) := by decide +kernel
theorem dX7_size_152 : decode cX7_size 152 = .ok (.aload_n 0, 1) := by decide +kernel
theorem dX7_size_153 : decode cX7_size 153 = .ok (.getfield 26, 3) := by decide +kernel
theorem dX7_size_156 : decode cX7_size 156 = .ok (.getfield 115, 3) := by decide +kernel
theorem dX7_size_159 : decode cX7_size 159 = .ok (.ireturn, 1) := by decide +kernel
theorem dX7_size_160 : decode cX7_size 160 = .ok (.new 53, 3) := by decide +kernel
theorem dX7_size_163 : decode cX7_size 163 = .ok (.dup, 1) := by decide +kernel
theorem dX7_size_164 : decode cX7_size 164 = .ok (.ldc 118, 2) := by decide +kernel
theorem dX7_size_166 : decode cX7_size 166 = .ok (.invokespecial 57, 3) := by decide +kernel
theorem dX7_size_169 : decode cX7_size 169 = .ok (.athrow, 1) := by decide +kernel
theorem dX7_device_0 : decode cX7_device 0 = .ok (.aload_n 0, 1) := by decide +kernel
theorem dX7_device_1 : decode cX7_device 1 = .ok (.iload_n 1, 1) := by decide +kernel
theorem dX7_device_2 : decode cX7_device 2 = .ok (.invokevirtual 127, 3) := by decide +kernel
theorem dX7_device_5 : decode cX7_device 5 = .ok (.iload_n 2, 1) := by decide +kernel
theorem dX7_device_6 : decode cX7_device 6 = .ok (.tableswitch 143 0 7 #[46, 59, 72, 89, 99, 109, 125, 134], 46) := by decide +kernel
theorem dX7_device_52 : decode cX7_device 52 = .ok (.aload_n 0, 1) := by decide +kernel
theorem dX7_device_53 : decode cX7_device 53 = .ok (.getfield 19, 3) := by decide +kernel
theorem dX7_device_56 : decode cX7_device 56 = .ok (.getfield 99, 3) := by decide +kernel
theorem dX7_device_59 : decode cX7_device 59 = .ok (.getfield 130, 3) := by decide +kernel
theorem dX7_device_62 : decode cX7_device 62 = .ok (.iload_n 1, 1) := by decide +kernel
theorem dX7_device_63 : decode cX7_device 63 = .ok (.iaload, 1) := by decide +kernel
theorem dX7_device_64 : decode cX7_device 64 = .ok (.ireturn, 1) := by decide +kernel
theorem dX7_device_65 : decode cX7_device 65 = .ok (.aload_n 0, 1) := by decide +kernel
theorem dX7_device_66 : decode cX7_device 66 = .ok (.getfield 19, 3) := by decide +kernel
theorem dX7_device_69 : decode cX7_device 69 = .ok (.getfield 67, 3) := by decide +kernel
theorem dX7_device_72 : decode cX7_device 72 = .ok (.getfield 134, 3) := by decide +kernel
theorem dX7_device_75 : decode cX7_device 75 = .ok (.iload_n 1, 1) := by decide +kernel
theorem dX7_device_76 : decode cX7_device 76 = .ok (.iaload, 1) := by decide +kernel
theorem dX7_device_77 : decode cX7_device 77 = .ok (.ireturn, 1) := by decide +kernel
theorem dX7_device_78 : decode cX7_device 78 = .ok (.aload_n 0, 1) := by decide +kernel
theorem dX7_device_79 : decode cX7_device 79 = .ok (.getfield 19, 3) := by decide +kernel
theorem dX7_device_82 : decode cX7_device 82 = .ok (.iload_n 1, 1) := by decide +kernel
theorem dX7_device_83 : decode cX7_device 83 = .ok (.invokevirtual 137, 3) := by decide +kernel
theorem dX7_device_86 : decode cX7_device 86 = .ok (.ifCond .eq 7, 3) := by decide +kernel
theorem dX7_device_89 : decode cX7_device 89 = .ok (.iconst 1, 1) := by decide +kernel
theorem dX7_device_90 : decode cX7_device 90 = .ok (.goto 4, 3) := by decide +kernel
theorem dX7_device_93 : decode cX7_device 93 = .ok (.iconst 0, 1) := by decide +kernel
theorem dX7_device_94 : decode cX7_device 94 = .ok (.ireturn, 1) := by decide +kernel
theorem dX7_device_95 : decode cX7_device 95 = .ok (.aload_n 0, 1) := by decide +kernel
theorem dX7_device_96 : decode cX7_device 96 = .ok (.getfield 19, 3) := by decide +kernel
theorem dX7_device_99 : decode cX7_device 99 = .ok (.iload_n 1, 1) := by decide +kernel
theorem dX7_device_100 : decode cX7_device 100 = .ok (.iconst (-1), 1) := by decide +kernel
theorem dX7_device_101 : decode cX7_device 101 = .ok (.invokevirtual 140, 3) := by decide +kernel
theorem dX7_device_104 : decode cX7_device 104 = .ok (.ireturn, 1) := by decide +kernel
theorem dX7_device_105 : decode cX7_device 105 = .ok (.aload_n 0, 1) := by decide +kernel
theorem dX7_device_106 : decode cX7_device 106 = .ok (.getfield 19, 3) := by decide +kernel
theorem dX7_device_109 : decode cX7_device 109 = .ok (.iload_n 1, 1) := by decide +kernel
theorem dX7_device_110 : decode cX7_device 110 = .ok (.iconst (-1), 1) := by decide +kernel
theorem dX7_device_111 : decode cX7_device 111 = .ok (.invokevirtual 144, 3) := by decide +kernel
theorem dX7_device_114 : decode cX7_device 114 = .ok (.ireturn, 1) := by decide +kernel
theorem dX7_device_115 : decode cX7_device 115 = .ok (.aload_n 0, 1) := by decide +kernel
theorem dX7_device_116 : decode cX7_device 116 = .ok (.getfield 19, 3) := by decide +kernel
theorem dX7_device_119 : decode cX7_device 119 = .ok (.getfield 99, 3) := by decide +kernel
theorem dX7_device_122 : decode cX7_device 122 = .ok (.getfield 147, 3) := by decide +kernel
theorem dX7_device_125 : decode cX7_device 125 = .ok (.getfield 151, 3) := by decide +kernel
theorem dX7_device_128 : decode cX7_device 128 = .ok (.iload_n 1, 1) := by decide +kernel
theorem dX7_device_129 : decode cX7_device 129 = .ok (.iaload, 1) := by decide +kernel
theorem dX7_device_130 : decode cX7_device 130 = .ok (.ireturn, 1) := by decide +kernel
theorem dX7_device_131 : decode cX7_device 131 = .ok (.aload_n 0, 1) := by decide +kernel
theorem dX7_device_132 : decode cX7_device 132 = .ok (.getfield 19, 3) := by decide +kernel
theorem dX7_device_135 : decode cX7_device 135 = .ok (.iload_n 1, 1) := by decide +kernel
theorem dX7_device_136 : decode cX7_device 136 = .ok (.invokevirtual 155, 3) := by decide +kernel
theorem dX7_device_139 : decode cX7_device 139 = .ok (.ireturn, 1) := by decide +kernel
theorem dX7_device_140 : decode cX7_device 140 = .ok (.aload_n 0, 1) := by decide +kernel
theorem dX7_device_141 : decode cX7_device 141 = .ok (.getfield 19, 3) := by decide +kernel
theorem dX7_device_144 : decode cX7_device 144 = .ok (.iload_n 1, 1) := by decide +kernel
theorem dX7_device_145 : decode cX7_device 145 = .ok (.invokevirtual 158, 3) := by decide +kernel
theorem dX7_device_148 : decode cX7_device 148 = .ok (.ireturn, 1) := by decide +kernel
theorem dX7_device_149 : decode cX7_device 149 = .ok (.new 53, 3) := by decide +kernel
theorem dX7_device_152 : decode cX7_device 152 = .ok (.dup, 1) := by decide +kernel
theorem dX7_device_153 : decode cX7_device 153 = .ok (.ldc 161, 2) := by decide +kernel
theorem dX7_device_155 : decode cX7_device 155 = .ok (.invokespecial 57, 3) := by decide +kernel
theorem dX7_device_158 : decode cX7_device 158 = .ok (.athrow, 1) := by decide +kernel
theorem dX7_stream_0 : decode cX7_stream 0 = .ok (.aload_n 0, 1) := by decide +kernel
theorem dX7_stream_1 : decode cX7_stream 1 = .ok (.iload_n 1, 1) := by decide +kernel
theorem dX7_stream_2 : decode cX7_stream 2 = .ok (.invokevirtual 163, 3) := by decide +kernel
theorem dX7_stream_5 : decode cX7_stream 5 = .ok (.iload_n 2, 1) := by decide +kernel
theorem dX7_stream_6 : decode cX7_stream 6 = .ok (.tableswitch 129 0 6 #[42, 55, 68, 77, 90, 103, 116], 42) := by decide +kernel
theorem dX7_stream_48 : decode cX7_stream 48 = .ok (.aload_n 0, 1) := by decide +kernel
theorem dX7_stream_49 : decode cX7_stream 49 = .ok (.getfield 19, 3) := by decide +kernel
theorem dX7_stream_52 : decode cX7_stream 52 = .ok (.getfield 99, 3) := by decide +kernel
theorem dX7_stream_55 : decode cX7_stream 55 = .ok (.getfield 166, 3) := by decide +kernel
theorem dX7_stream_58 : decode cX7_stream 58 = .ok (.iload_n 1, 1) := by decide +kernel
theorem dX7_stream_59 : decode cX7_stream 59 = .ok (.iaload, 1) := by decide +kernel
theorem dX7_stream_60 : decode cX7_stream 60 = .ok (.ireturn, 1) := by decide +kernel
theorem dX7_stream_61 : decode cX7_stream 61 = .ok (.aload_n 0, 1) := by decide +kernel
theorem dX7_stream_62 : decode cX7_stream 62 = .ok (.getfield 19, 3) := by decide +kernel
theorem dX7_stream_65 : decode cX7_stream 65 = .ok (.getfield 99, 3) := by decide +kernel
theorem dX7_stream_68 : decode cX7_stream 68 = .ok (.getfield 169, 3) := by decide +kernel
theorem dX7_stream_71 : decode cX7_stream 71 = .ok (.iload_n 1, 1) := by decide +kernel
theorem dX7_stream_72 : decode cX7_stream 72 = .ok (.iaload, 1) := by decide +kernel
theorem dX7_stream_73 : decode cX7_stream 73 = .ok (.ireturn, 1) := by decide +kernel
theorem dX7_stream_74 : decode cX7_stream 74 = .ok (.aload_n 0, 1) := by decide +kernel
theorem dX7_stream_75 : decode cX7_stream 75 = .ok (.getfield 19, 3) := by decide +kernel
theorem dX7_stream_78 : decode cX7_stream 78 = .ok (.iload_n 1, 1) := by decide +kernel
theorem dX7_stream_79 : decode cX7_stream 79 = .ok (.invokevirtual 172, 3) := by decide +kernel
theorem dX7_stream_82 : decode cX7_stream 82 = .ok (.ireturn, 1) := by decide +kernel
theorem dX7_stream_83 : decode cX7_stream 83 = .ok (.aload_n 0, 1) := by decide +kernel
theorem dX7_stream_84 : decode cX7_stream 84 = .ok (.getfield 19, 3) := by decide +kernel
theorem dX7_stream_87 : decode cX7_stream 87 = .ok (.getfield 67, 3) := by decide +kernel
theorem dX7_stream_90 : decode cX7_stream 90 = .ok (.getfield 175, 3) := by decide +kernel
theorem dX7_stream_93 : decode cX7_stream 93 = .ok (.iload_n 1, 1) := by decide +kernel
theorem dX7_stream_94 : decode cX7_stream 94 = .ok (.iaload, 1) := by decide +kernel
theorem dX7_stream_95 : decode cX7_stream 95 = .ok (.ireturn, 1) := by decide +kernel
theorem dX7_stream_96 : decode cX7_stream 96 = .ok (.aload_n 0, 1) := by decide +kernel
theorem dX7_stream_97 : decode cX7_stream 97 = .ok (.getfield 19, 3) := by decide +kernel
theorem dX7_stream_100 : decode cX7_stream 100 = .ok (.getfield 67, 3) := by decide +kernel
theorem dX7_stream_103 : decode cX7_stream 103 = .ok (.getfield 178, 3) := by decide +kernel
theorem dX7_stream_106 : decode cX7_stream 106 = .ok (.iload_n 1, 1) := by decide +kernel
theorem dX7_stream_107 : decode cX7_stream 107 = .ok (.iaload, 1) := by decide +kernel
theorem dX7_stream_108 : decode cX7_stream 108 = .ok (.ireturn, 1) := by decide +kernel
theorem dX7_stream_109 : decode cX7_stream 109 = .ok (.aload_n 0, 1) := by decide +kernel
theorem dX7_stream_110 : decode cX7_stream 110 = .ok (.getfield 19, 3) := by decide +kernel
theorem dX7_stream_113 : decode cX7_stream 113 = .ok (.getfield 99, 3) := by decide +kernel
theorem dX7_stream_116 : decode cX7_stream 116 = .ok (.getfield 181, 3) := by decide +kernel
theorem dX7_stream_119 : decode cX7_stream 119 = .ok (.iload_n 1, 1) := by decide +kernel
theorem dX7_stream_120 : decode cX7_stream 120 = .ok (.iaload, 1) := by decide +kernel
theorem dX7_stream_121 : decode cX7_stream 121 = .ok (.ireturn, 1) := by decide +kernel
theorem dX7_stream_122 : decode cX7_stream 122 = .ok (.aload_n 0, 1) := by decide +kernel
theorem dX7_stream_123 : decode cX7_stream 123 = .ok (.getfield 19, 3) := by decide +kernel
theorem dX7_stream_126 : decode cX7_stream 126 = .ok (.getfield 67, 3) := by decide +kernel
theorem dX7_stream_129 : decode cX7_stream 129 = .ok (.getfield 184, 3) := by decide +kernel
theorem dX7_stream_132 : decode cX7_stream 132 = .ok (.iload_n 1, 1) := by decide +kernel
theorem dX7_stream_133 : decode cX7_stream 133 = .ok (.iaload, 1) := by decide +kernel
theorem dX7_stream_134 : decode cX7_stream 134 = .ok (.ireturn, 1) := by decide +kernel
theorem dX7_stream_135 : decode cX7_stream 135 = .ok (.new 53, 3) := by decide +kernel
theorem dX7_stream_138 : decode cX7_stream 138 = .ok (.dup, 1) := by decide +kernel
theorem dX7_stream_139 : decode cX7_stream 139 = .ok (.ldc 187, 2) := by decide +kernel
theorem dX7_stream_141 : decode cX7_stream 141 = .ok (.invokespecial 57, 3) := by decide +kernel
theorem dX7_stream_144 : decode cX7_stream 144 = .ok (.athrow, 1) := by decide +kernel
theorem dX7_framesToClear_0 : decode cX7_framesToClear 0 = .ok (.aload_n 0, 1) := by decide +kernel
theorem dX7_framesToClear_1 : decode cX7_framesToClear 1 = .ok (.iload_n 1, 1) := by decide +kernel
theorem dX7_framesToClear_2 : decode cX7_framesToClear 2 = .ok (.invokevirtual 127, 3) := by decide +kernel
theorem dX7_framesToClear_5 : decode cX7_framesToClear 5 = .ok (.aload_n 0, 1) := by decide +kernel
theorem dX7_framesToClear_6 : decode cX7_framesToClear 6 = .ok (.getfield 19, 3) := by decide +kernel
theorem dX7_framesToClear_9 : decode cX7_framesToClear 9 = .ok (.iload_n 1, 1) := by decide +kernel
theorem dX7_framesToClear_10 : decode cX7_framesToClear 10 = .ok (.invokevirtual 215, 3) := by decide +kernel
theorem dX7_framesToClear_13 : decode cX7_framesToClear 13 = .ok (.ireturn, 1) := by decide +kernel
theorem dX7_atStake_0 : decode cX7_atStake 0 = .ok (.aload_n 0, 1) := by decide +kernel
theorem dX7_atStake_1 : decode cX7_atStake 1 = .ok (.iload_n 1, 1) := by decide +kernel
theorem dX7_atStake_2 : decode cX7_atStake 2 = .ok (.invokevirtual 127, 3) := by decide +kernel
theorem dX7_atStake_5 : decode cX7_atStake 5 = .ok (.aload_n 0, 1) := by decide +kernel
theorem dX7_atStake_6 : decode cX7_atStake 6 = .ok (.getfield 19, 3) := by decide +kernel
theorem dX7_atStake_9 : decode cX7_atStake 9 = .ok (.iload_n 1, 1) := by decide +kernel
theorem dX7_atStake_10 : decode cX7_atStake 10 = .ok (.invokevirtual 218, 3) := by decide +kernel
theorem dX7_atStake_13 : decode cX7_atStake 13 = .ok (.ireturn, 1) := by decide +kernel
theorem dX7_weakest_0 : decode cX7_weakest 0 = .ok (.aload_n 0, 1) := by decide +kernel
theorem dX7_weakest_1 : decode cX7_weakest 1 = .ok (.getfield 19, 3) := by decide +kernel
theorem dX7_weakest_4 : decode cX7_weakest 4 = .ok (.invokevirtual 221, 3) := by decide +kernel
theorem dX7_weakest_7 : decode cX7_weakest 7 = .ok (.ireturn, 1) := by decide +kernel
theorem dX7_account_0 : decode cX7_account 0 = .ok (.iload_n 1, 1) := by decide +kernel
theorem dX7_account_1 : decode cX7_account 1 = .ok (.ifCond .lt 9, 3) := by decide +kernel
theorem dX7_account_4 : decode cX7_account 4 = .ok (.iload_n 1, 1) := by decide +kernel
theorem dX7_account_5 : decode cX7_account 5 = .ok (.bipush 10, 2) := by decide +kernel
theorem dX7_account_7 : decode cX7_account 7 = .ok (.if_icmp .lt 13, 3) := by decide +kernel
theorem dX7_account_10 : decode cX7_account 10 = .ok (.new 53, 3) := by decide +kernel
theorem dX7_account_13 : decode cX7_account 13 = .ok (.dup, 1) := by decide +kernel
theorem dX7_account_14 : decode cX7_account 14 = .ok (.ldc 238, 2) := by decide +kernel
theorem dX7_account_16 : decode cX7_account 16 = .ok (.invokespecial 57, 3) := by decide +kernel
theorem dX7_account_19 : decode cX7_account 19 = .ok (.athrow, 1) := by decide +kernel
theorem dX7_account_20 : decode cX7_account 20 = .ok (.aload_n 0, 1) := by decide +kernel
theorem dX7_account_21 : decode cX7_account 21 = .ok (.getfield 19, 3) := by decide +kernel
theorem dX7_account_24 : decode cX7_account 24 = .ok (.getfield 99, 3) := by decide +kernel
theorem dX7_account_27 : decode cX7_account 27 = .ok (.getfield 229, 3) := by decide +kernel
theorem dX7_account_30 : decode cX7_account 30 = .ok (.getfield 240, 3) := by decide +kernel
theorem dX7_account_33 : decode cX7_account 33 = .ok (.iload_n 1, 1) := by decide +kernel
theorem dX7_account_34 : decode cX7_account 34 = .ok (.iaload, 1) := by decide +kernel
theorem dX7_account_35 : decode cX7_account 35 = .ok (.ireturn, 1) := by decide +kernel
theorem dX7_frames_0 : decode cX7_frames 0 = .ok (.iload_n 1, 1) := by decide +kernel
theorem dX7_frames_1 : decode cX7_frames 1 = .ok (.iconst 1, 1) := by decide +kernel
theorem dX7_frames_2 : decode cX7_frames 2 = .ok (.if_icmp .lt 10, 3) := by decide +kernel
theorem dX7_frames_5 : decode cX7_frames 5 = .ok (.iload_n 1, 1) := by decide +kernel
theorem dX7_frames_6 : decode cX7_frames 6 = .ok (.sipush 200, 3) := by decide +kernel
theorem dX7_frames_9 : decode cX7_frames 9 = .ok (.if_icmp .le 13, 3) := by decide +kernel
theorem dX7_frames_12 : decode cX7_frames 12 = .ok (.new 53, 3) := by decide +kernel
theorem dX7_frames_15 : decode cX7_frames 15 = .ok (.dup, 1) := by decide +kernel
theorem dX7_frames_16 : decode cX7_frames 16 = .ok (.ldc 243, 2) := by decide +kernel
theorem dX7_frames_18 : decode cX7_frames 18 = .ok (.invokespecial 57, 3) := by decide +kernel
theorem dX7_frames_21 : decode cX7_frames 21 = .ok (.athrow, 1) := by decide +kernel
theorem dX7_frames_22 : decode cX7_frames 22 = .ok (.aload_n 0, 1) := by decide +kernel
theorem dX7_frames_23 : decode cX7_frames 23 = .ok (.getfield 26, 3) := by decide +kernel
theorem dX7_frames_26 : decode cX7_frames 26 = .ok (.aload_n 0, 1) := by decide +kernel
theorem dX7_frames_27 : decode cX7_frames 27 = .ok (.getfield 19, 3) := by decide +kernel
theorem dX7_frames_30 : decode cX7_frames 30 = .ok (.getfield 99, 3) := by decide +kernel
theorem dX7_frames_33 : decode cX7_frames 33 = .ok (.invokevirtual 245, 3) := by decide +kernel
theorem dX7_frames_36 : decode cX7_frames 36 = .ok (.iconst 0, 1) := by decide +kernel
theorem dX7_frames_37 : decode cX7_frames 37 = .ok (.istore_n 2, 1) := by decide +kernel
theorem dX7_frames_38 : decode cX7_frames 38 = .ok (.iload_n 2, 1) := by decide +kernel
theorem dX7_frames_39 : decode cX7_frames 39 = .ok (.iload_n 1, 1) := by decide +kernel
theorem dX7_frames_40 : decode cX7_frames 40 = .ok (.if_icmp .ge 16, 3) := by decide +kernel
theorem dX7_frames_43 : decode cX7_frames 43 = .ok (.aload_n 0, 1) := by decide +kernel
theorem dX7_frames_44 : decode cX7_frames 44 = .ok (.getfield 19, 3) := by decide +kernel
theorem dX7_frames_47 : decode cX7_frames 47 = .ok (.invokevirtual 249, 3) := by decide +kernel
theorem dX7_frames_50 : decode cX7_frames 50 = .ok (.iinc 2 1, 3) := by decide +kernel
theorem dX7_frames_53 : decode cX7_frames 53 = .ok (.goto (-15), 3) := by decide +kernel
theorem dX7_frames_56 : decode cX7_frames 56 = .ok (.aload_n 0, 1) := by decide +kernel
theorem dX7_frames_57 : decode cX7_frames 57 = .ok (.getfield 19, 3) := by decide +kernel
theorem dX7_frames_60 : decode cX7_frames 60 = .ok (.invokevirtual 106, 3) := by decide +kernel
theorem dX7_frames_63 : decode cX7_frames 63 = .ok (.ireturn, 1) := by decide +kernel
theorem dX7_fail_0 : decode cX7_fail 0 = .ok (.aload_n 0, 1) := by decide +kernel
theorem dX7_fail_1 : decode cX7_fail 1 = .ok (.iload_n 1, 1) := by decide +kernel
theorem dX7_fail_2 : decode cX7_fail 2 = .ok (.invokevirtual 127, 3) := by decide +kernel
theorem dX7_fail_5 : decode cX7_fail 5 = .ok (.aload_n 0, 1) := by decide +kernel
theorem dX7_fail_6 : decode cX7_fail 6 = .ok (.iload_n 2, 1) := by decide +kernel
theorem dX7_fail_7 : decode cX7_fail 7 = .ok (.invokevirtual 206, 3) := by decide +kernel
theorem dX7_fail_10 : decode cX7_fail 10 = .ok (.aload_n 0, 1) := by decide +kernel
theorem dX7_fail_11 : decode cX7_fail 11 = .ok (.iload_n 1, 1) := by decide +kernel
theorem dX7_fail_12 : decode cX7_fail 12 = .ok (.invokevirtual 252, 3) := by decide +kernel
theorem dX7_fail_15 : decode cX7_fail 15 = .ok (.aload_n 0, 1) := by decide +kernel
theorem dX7_fail_16 : decode cX7_fail 16 = .ok (.getfield 26, 3) := by decide +kernel
theorem dX7_fail_19 : decode cX7_fail 19 = .ok (.aload_n 0, 1) := by decide +kernel
theorem dX7_fail_20 : decode cX7_fail 20 = .ok (.getfield 19, 3) := by decide +kernel
theorem dX7_fail_23 : decode cX7_fail 23 = .ok (.getfield 99, 3) := by decide +kernel
theorem dX7_fail_26 : decode cX7_fail 26 = .ok (.invokevirtual 245, 3) := by decide +kernel
theorem dX7_fail_29 : decode cX7_fail 29 = .ok (.aload_n 0, 1) := by decide +kernel
theorem dX7_fail_30 : decode cX7_fail 30 = .ok (.getfield 19, 3) := by decide +kernel
theorem dX7_fail_33 : decode cX7_fail 33 = .ok (.iload_n 1, 1) := by decide +kernel
theorem dX7_fail_34 : decode cX7_fail 34 = .ok (.iload_n 2, 1) := by decide +kernel
theorem dX7_fail_35 : decode cX7_fail 35 = .ok (.invokevirtual 255, 3) := by decide +kernel
theorem dX7_fail_38 : decode cX7_fail 38 = .ok (.aload_n 0, 1) := by decide +kernel
theorem dX7_fail_39 : decode cX7_fail 39 = .ok (.getfield 19, 3) := by decide +kernel
theorem dX7_fail_42 : decode cX7_fail 42 = .ok (.iload_n 1, 1) := by decide +kernel
theorem dX7_fail_43 : decode cX7_fail 43 = .ok (.iconst (-1), 1) := by decide +kernel
theorem dX7_fail_44 : decode cX7_fail 44 = .ok (.invokevirtual 140, 3) := by decide +kernel
theorem dX7_fail_47 : decode cX7_fail 47 = .ok (.ireturn, 1) := by decide +kernel
theorem dX7_warn_0 : decode cX7_warn 0 = .ok (.aload_n 0, 1) := by decide +kernel
theorem dX7_warn_1 : decode cX7_warn 1 = .ok (.iload_n 1, 1) := by decide +kernel
theorem dX7_warn_2 : decode cX7_warn 2 = .ok (.invokevirtual 127, 3) := by decide +kernel
theorem dX7_warn_5 : decode cX7_warn 5 = .ok (.aload_n 0, 1) := by decide +kernel
theorem dX7_warn_6 : decode cX7_warn 6 = .ok (.iload_n 1, 1) := by decide +kernel
theorem dX7_warn_7 : decode cX7_warn 7 = .ok (.invokevirtual 252, 3) := by decide +kernel
theorem dX7_warn_10 : decode cX7_warn 10 = .ok (.aload_n 0, 1) := by decide +kernel
theorem dX7_warn_11 : decode cX7_warn 11 = .ok (.getfield 19, 3) := by decide +kernel
theorem dX7_warn_14 : decode cX7_warn 14 = .ok (.iload_n 1, 1) := by decide +kernel
theorem dX7_warn_15 : decode cX7_warn 15 = .ok (.invokevirtual 137, 3) := by decide +kernel
theorem dX7_warn_18 : decode cX7_warn 18 = .ok (.ifCond .eq 14, 3) := by decide +kernel
theorem dX7_warn_21 : decode cX7_warn 21 = .ok (.new 259, 3) := by decide +kernel
theorem dX7_warn_24 : decode cX7_warn 24 = .ok (.dup, 1) := by decide +kernel
theorem dX7_warn_25 : decode cX7_warn 25 = .ok (.ldc_w 261, 3) := by decide +kernel
theorem dX7_warn_28 : decode cX7_warn 28 = .ok (.invokespecial 263, 3) := by decide +kernel
theorem dX7_warn_31 : decode cX7_warn 31 = .ok (.athrow, 1) := by decide +kernel
theorem dX7_warn_32 : decode cX7_warn 32 = .ok (.aload_n 0, 1) := by decide +kernel
theorem dX7_warn_33 : decode cX7_warn 33 = .ok (.getfield 26, 3) := by decide +kernel
theorem dX7_warn_36 : decode cX7_warn 36 = .ok (.aload_n 0, 1) := by decide +kernel
theorem dX7_warn_37 : decode cX7_warn 37 = .ok (.getfield 19, 3) := by decide +kernel
theorem dX7_warn_40 : decode cX7_warn 40 = .ok (.getfield 99, 3) := by decide +kernel
theorem dX7_warn_43 : decode cX7_warn 43 = .ok (.invokevirtual 245, 3) := by decide +kernel
theorem dX7_warn_46 : decode cX7_warn 46 = .ok (.aload_n 0, 1) := by decide +kernel
theorem dX7_warn_47 : decode cX7_warn 47 = .ok (.getfield 19, 3) := by decide +kernel
theorem dX7_warn_50 : decode cX7_warn 50 = .ok (.iload_n 1, 1) := by decide +kernel
theorem dX7_warn_51 : decode cX7_warn 51 = .ok (.invokevirtual 215, 3) := by decide +kernel
theorem dX7_warn_54 : decode cX7_warn 54 = .ok (.istore_n 2, 1) := by decide +kernel
theorem dX7_warn_55 : decode cX7_warn 55 = .ok (.aload_n 0, 1) := by decide +kernel
theorem dX7_warn_56 : decode cX7_warn 56 = .ok (.getfield 19, 3) := by decide +kernel
theorem dX7_warn_59 : decode cX7_warn 59 = .ok (.iload_n 1, 1) := by decide +kernel
theorem dX7_warn_60 : decode cX7_warn 60 = .ok (.invokevirtual 264, 3) := by decide +kernel
theorem dX7_warn_63 : decode cX7_warn 63 = .ok (.aload_n 0, 1) := by decide +kernel
theorem dX7_warn_64 : decode cX7_warn 64 = .ok (.getfield 19, 3) := by decide +kernel
theorem dX7_warn_67 : decode cX7_warn 67 = .ok (.invokevirtual 267, 3) := by decide +kernel
theorem dX7_warn_70 : decode cX7_warn 70 = .ok (.iload_n 2, 1) := by decide +kernel
theorem dX7_warn_71 : decode cX7_warn 71 = .ok (.ireturn, 1) := by decide +kernel
theorem dX7_callOff_0 : decode cX7_callOff 0 = .ok (.aload_n 0, 1) := by decide +kernel
theorem dX7_callOff_1 : decode cX7_callOff 1 = .ok (.iload_n 1, 1) := by decide +kernel
theorem dX7_callOff_2 : decode cX7_callOff 2 = .ok (.invokevirtual 127, 3) := by decide +kernel
theorem dX7_callOff_5 : decode cX7_callOff 5 = .ok (.aload_n 0, 1) := by decide +kernel
theorem dX7_callOff_6 : decode cX7_callOff 6 = .ok (.getfield 19, 3) := by decide +kernel
theorem dX7_callOff_9 : decode cX7_callOff 9 = .ok (.iload_n 1, 1) := by decide +kernel
theorem dX7_callOff_10 : decode cX7_callOff 10 = .ok (.invokevirtual 137, 3) := by decide +kernel
theorem dX7_callOff_13 : decode cX7_callOff 13 = .ok (.ifCond .ne 14, 3) := by decide +kernel
theorem dX7_callOff_16 : decode cX7_callOff 16 = .ok (.new 259, 3) := by decide +kernel
theorem dX7_callOff_19 : decode cX7_callOff 19 = .ok (.dup, 1) := by decide +kernel
theorem dX7_callOff_20 : decode cX7_callOff 20 = .ok (.ldc_w 270, 3) := by decide +kernel
theorem dX7_callOff_23 : decode cX7_callOff 23 = .ok (.invokespecial 263, 3) := by decide +kernel
theorem dX7_callOff_26 : decode cX7_callOff 26 = .ok (.athrow, 1) := by decide +kernel
theorem dX7_callOff_27 : decode cX7_callOff 27 = .ok (.aload_n 0, 1) := by decide +kernel
theorem dX7_callOff_28 : decode cX7_callOff 28 = .ok (.getfield 26, 3) := by decide +kernel
theorem dX7_callOff_31 : decode cX7_callOff 31 = .ok (.aload_n 0, 1) := by decide +kernel
theorem dX7_callOff_32 : decode cX7_callOff 32 = .ok (.getfield 19, 3) := by decide +kernel
theorem dX7_callOff_35 : decode cX7_callOff 35 = .ok (.getfield 99, 3) := by decide +kernel
theorem dX7_callOff_38 : decode cX7_callOff 38 = .ok (.invokevirtual 245, 3) := by decide +kernel
theorem dX7_callOff_41 : decode cX7_callOff 41 = .ok (.aload_n 0, 1) := by decide +kernel
theorem dX7_callOff_42 : decode cX7_callOff 42 = .ok (.getfield 19, 3) := by decide +kernel
theorem dX7_callOff_45 : decode cX7_callOff 45 = .ok (.iload_n 1, 1) := by decide +kernel
theorem dX7_callOff_46 : decode cX7_callOff 46 = .ok (.invokevirtual 272, 3) := by decide +kernel
theorem dX7_callOff_49 : decode cX7_callOff 49 = .ok (.aload_n 0, 1) := by decide +kernel
theorem dX7_callOff_50 : decode cX7_callOff 50 = .ok (.getfield 19, 3) := by decide +kernel
theorem dX7_callOff_53 : decode cX7_callOff 53 = .ok (.invokevirtual 267, 3) := by decide +kernel
theorem dX7_callOff_56 : decode cX7_callOff 56 = .ok (.aload_n 0, 1) := by decide +kernel
theorem dX7_callOff_57 : decode cX7_callOff 57 = .ok (.getfield 19, 3) := by decide +kernel
theorem dX7_callOff_60 : decode cX7_callOff 60 = .ok (.iload_n 1, 1) := by decide +kernel
theorem dX7_callOff_61 : decode cX7_callOff 61 = .ok (.invokevirtual 155, 3) := by decide +kernel
theorem dX7_callOff_64 : decode cX7_callOff 64 = .ok (.invokestatic 275, 3) := by decide +kernel
theorem dX7_callOff_67 : decode cX7_callOff 67 = .ok (.ireturn, 1) := by decide +kernel
theorem dX7_unplug_0 : decode cX7_unplug 0 = .ok (.aload_n 0, 1) := by decide +kernel
theorem dX7_unplug_1 : decode cX7_unplug 1 = .ok (.iload_n 1, 1) := by decide +kernel
theorem dX7_unplug_2 : decode cX7_unplug 2 = .ok (.invokevirtual 127, 3) := by decide +kernel
theorem dX7_unplug_5 : decode cX7_unplug 5 = .ok (.aload_n 0, 1) := by decide +kernel
theorem dX7_unplug_6 : decode cX7_unplug 6 = .ok (.iload_n 1, 1) := by decide +kernel
theorem dX7_unplug_7 : decode cX7_unplug 7 = .ok (.invokevirtual 252, 3) := by decide +kernel
theorem dX7_unplug_10 : decode cX7_unplug 10 = .ok (.aload_n 0, 1) := by decide +kernel
theorem dX7_unplug_11 : decode cX7_unplug 11 = .ok (.getfield 26, 3) := by decide +kernel
theorem dX7_unplug_14 : decode cX7_unplug 14 = .ok (.aload_n 0, 1) := by decide +kernel
theorem dX7_unplug_15 : decode cX7_unplug 15 = .ok (.getfield 19, 3) := by decide +kernel
theorem dX7_unplug_18 : decode cX7_unplug 18 = .ok (.getfield 99, 3) := by decide +kernel
theorem dX7_unplug_21 : decode cX7_unplug 21 = .ok (.invokevirtual 245, 3) := by decide +kernel
theorem dX7_unplug_24 : decode cX7_unplug 24 = .ok (.aload_n 0, 1) := by decide +kernel
theorem dX7_unplug_25 : decode cX7_unplug 25 = .ok (.getfield 19, 3) := by decide +kernel
theorem dX7_unplug_28 : decode cX7_unplug 28 = .ok (.iload_n 1, 1) := by decide +kernel
theorem dX7_unplug_29 : decode cX7_unplug 29 = .ok (.invokevirtual 280, 3) := by decide +kernel
theorem dX7_unplug_32 : decode cX7_unplug 32 = .ok (.ireturn, 1) := by decide +kernel
theorem dX7_plug_0 : decode cX7_plug 0 = .ok (.aload_n 0, 1) := by decide +kernel
theorem dX7_plug_1 : decode cX7_plug 1 = .ok (.iload_n 1, 1) := by decide +kernel
theorem dX7_plug_2 : decode cX7_plug 2 = .ok (.invokevirtual 127, 3) := by decide +kernel
theorem dX7_plug_5 : decode cX7_plug 5 = .ok (.aload_n 0, 1) := by decide +kernel
theorem dX7_plug_6 : decode cX7_plug 6 = .ok (.iload_n 2, 1) := by decide +kernel
theorem dX7_plug_7 : decode cX7_plug 7 = .ok (.invokevirtual 120, 3) := by decide +kernel
theorem dX7_plug_10 : decode cX7_plug 10 = .ok (.aload_n 0, 1) := by decide +kernel
theorem dX7_plug_11 : decode cX7_plug 11 = .ok (.getfield 19, 3) := by decide +kernel
theorem dX7_plug_14 : decode cX7_plug 14 = .ok (.iload_n 1, 1) := by decide +kernel
theorem dX7_plug_15 : decode cX7_plug 15 = .ok (.invokevirtual 209, 3) := by decide +kernel
theorem dX7_plug_18 : decode cX7_plug 18 = .ok (.ifCond .eq 14, 3) := by decide +kernel
theorem dX7_plug_21 : decode cX7_plug 21 = .ok (.new 259, 3) := by decide +kernel
theorem dX7_plug_24 : decode cX7_plug 24 = .ok (.dup, 1) := by decide +kernel
theorem dX7_plug_25 : decode cX7_plug 25 = .ok (.ldc_w 283, 3) := by decide +kernel
theorem dX7_plug_28 : decode cX7_plug 28 = .ok (.invokespecial 263, 3) := by decide +kernel
theorem dX7_plug_31 : decode cX7_plug 31 = .ok (.athrow, 1) := by decide +kernel
theorem dX7_plug_32 : decode cX7_plug 32 = .ok (.aload_n 0, 1) := by decide +kernel
theorem dX7_plug_33 : decode cX7_plug 33 = .ok (.getfield 19, 3) := by decide +kernel
theorem dX7_plug_36 : decode cX7_plug 36 = .ok (.iload_n 2, 1) := by decide +kernel
theorem dX7_plug_37 : decode cX7_plug 37 = .ok (.invokevirtual 123, 3) := by decide +kernel
theorem dX7_plug_40 : decode cX7_plug 40 = .ok (.iconst (-1), 1) := by decide +kernel
theorem dX7_plug_41 : decode cX7_plug 41 = .ok (.if_icmp .eq 14, 3) := by decide +kernel
theorem dX7_plug_44 : decode cX7_plug 44 = .ok (.new 259, 3) := by decide +kernel
theorem dX7_plug_47 : decode cX7_plug 47 = .ok (.dup, 1) := by decide +kernel
theorem dX7_plug_48 : decode cX7_plug 48 = .ok (.ldc_w 285, 3) := by decide +kernel
theorem dX7_plug_51 : decode cX7_plug 51 = .ok (.invokespecial 263, 3) := by decide +kernel
theorem dX7_plug_54 : decode cX7_plug 54 = .ok (.athrow, 1) := by decide +kernel
theorem dX7_plug_55 : decode cX7_plug 55 = .ok (.aload_n 0, 1) := by decide +kernel
theorem dX7_plug_56 : decode cX7_plug 56 = .ok (.getfield 26, 3) := by decide +kernel
theorem dX7_plug_59 : decode cX7_plug 59 = .ok (.aload_n 0, 1) := by decide +kernel
theorem dX7_plug_60 : decode cX7_plug 60 = .ok (.getfield 19, 3) := by decide +kernel
theorem dX7_plug_63 : decode cX7_plug 63 = .ok (.getfield 99, 3) := by decide +kernel
theorem dX7_plug_66 : decode cX7_plug 66 = .ok (.invokevirtual 245, 3) := by decide +kernel
theorem dX7_plug_69 : decode cX7_plug 69 = .ok (.aload_n 0, 1) := by decide +kernel
theorem dX7_plug_70 : decode cX7_plug 70 = .ok (.getfield 19, 3) := by decide +kernel
theorem dX7_plug_73 : decode cX7_plug 73 = .ok (.iload_n 1, 1) := by decide +kernel
theorem dX7_plug_74 : decode cX7_plug 74 = .ok (.iload_n 2, 1) := by decide +kernel
theorem dX7_plug_75 : decode cX7_plug 75 = .ok (.invokevirtual 287, 3) := by decide +kernel
theorem dX7_plug_78 : decode cX7_plug 78 = .ok (.aload_n 0, 1) := by decide +kernel
theorem dX7_plug_79 : decode cX7_plug 79 = .ok (.getfield 19, 3) := by decide +kernel
theorem dX7_plug_82 : decode cX7_plug 82 = .ok (.iload_n 1, 1) := by decide +kernel
theorem dX7_plug_83 : decode cX7_plug 83 = .ok (.invokevirtual 155, 3) := by decide +kernel
theorem dX7_plug_86 : decode cX7_plug 86 = .ok (.invokestatic 275, 3) := by decide +kernel
theorem dX7_plug_89 : decode cX7_plug 89 = .ok (.ireturn, 1) := by decide +kernel
theorem dX7_undo_0 : decode cX7_undo 0 = .ok (.aload_n 0, 1) := by decide +kernel
theorem dX7_undo_1 : decode cX7_undo 1 = .ok (.getfield 26, 3) := by decide +kernel
theorem dX7_undo_4 : decode cX7_undo 4 = .ok (.aload_n 0, 1) := by decide +kernel
theorem dX7_undo_5 : decode cX7_undo 5 = .ok (.getfield 19, 3) := by decide +kernel
theorem dX7_undo_8 : decode cX7_undo 8 = .ok (.getfield 99, 3) := by decide +kernel
theorem dX7_undo_11 : decode cX7_undo 11 = .ok (.invokevirtual 292, 3) := by decide +kernel
theorem dX7_undo_14 : decode cX7_undo 14 = .ok (.ifCond .eq 13, 3) := by decide +kernel
theorem dX7_undo_17 : decode cX7_undo 17 = .ok (.aload_n 0, 1) := by decide +kernel
theorem dX7_undo_18 : decode cX7_undo 18 = .ok (.getfield 26, 3) := by decide +kernel
theorem dX7_undo_21 : decode cX7_undo 21 = .ok (.getfield 115, 3) := by decide +kernel
theorem dX7_undo_24 : decode cX7_undo 24 = .ok (.goto 4, 3) := by decide +kernel
theorem dX7_undo_27 : decode cX7_undo 27 = .ok (.iconst (-1), 1) := by decide +kernel
theorem dX7_undo_28 : decode cX7_undo 28 = .ok (.ireturn, 1) := by decide +kernel
theorem dX7_saveSnapshot_0 : decode cX7_saveSnapshot 0 = .ok (.iload_n 1, 1) := by decide +kernel
theorem dX7_saveSnapshot_1 : decode cX7_saveSnapshot 1 = .ok (.ifCond .lt 8, 3) := by decide +kernel
theorem dX7_saveSnapshot_4 : decode cX7_saveSnapshot 4 = .ok (.iload_n 1, 1) := by decide +kernel
theorem dX7_saveSnapshot_5 : decode cX7_saveSnapshot 5 = .ok (.iconst 2, 1) := by decide +kernel
theorem dX7_saveSnapshot_6 : decode cX7_saveSnapshot 6 = .ok (.if_icmp .lt 5, 3) := by decide +kernel
theorem dX7_saveSnapshot_9 : decode cX7_saveSnapshot 9 = .ok (.iconst 0, 1) := by decide +kernel
theorem dX7_saveSnapshot_10 : decode cX7_saveSnapshot 10 = .ok (.ireturn, 1) := by decide +kernel
theorem dX7_saveSnapshot_11 : decode cX7_saveSnapshot 11 = .ok (.aload_n 0, 1) := by decide +kernel
theorem dX7_saveSnapshot_12 : decode cX7_saveSnapshot 12 = .ok (.getfield 32, 3) := by decide +kernel
theorem dX7_saveSnapshot_15 : decode cX7_saveSnapshot 15 = .ok (.iload_n 1, 1) := by decide +kernel
theorem dX7_saveSnapshot_16 : decode cX7_saveSnapshot 16 = .ok (.aaload, 1) := by decide +kernel
theorem dX7_saveSnapshot_17 : decode cX7_saveSnapshot 17 = .ok (.aload_n 0, 1) := by decide +kernel
theorem dX7_saveSnapshot_18 : decode cX7_saveSnapshot 18 = .ok (.getfield 19, 3) := by decide +kernel
theorem dX7_saveSnapshot_21 : decode cX7_saveSnapshot 21 = .ok (.getfield 99, 3) := by decide +kernel
theorem dX7_saveSnapshot_24 : decode cX7_saveSnapshot 24 = .ok (.invokevirtual 296, 3) := by decide +kernel
theorem dX7_saveSnapshot_27 : decode cX7_saveSnapshot 27 = .ok (.aload_n 0, 1) := by decide +kernel
theorem dX7_saveSnapshot_28 : decode cX7_saveSnapshot 28 = .ok (.getfield 36, 3) := by decide +kernel
theorem dX7_saveSnapshot_31 : decode cX7_saveSnapshot 31 = .ok (.iload_n 1, 1) := by decide +kernel
theorem dX7_saveSnapshot_32 : decode cX7_saveSnapshot 32 = .ok (.iconst 1, 1) := by decide +kernel
theorem dX7_saveSnapshot_33 : decode cX7_saveSnapshot 33 = .ok (.bastore, 1) := by decide +kernel
theorem dX7_saveSnapshot_34 : decode cX7_saveSnapshot 34 = .ok (.iconst 1, 1) := by decide +kernel
theorem dX7_saveSnapshot_35 : decode cX7_saveSnapshot 35 = .ok (.ireturn, 1) := by decide +kernel
theorem dX7_restoreSnapshot_0 : decode cX7_restoreSnapshot 0 = .ok (.iload_n 1, 1) := by decide +kernel
theorem dX7_restoreSnapshot_1 : decode cX7_restoreSnapshot 1 = .ok (.ifCond .lt 17, 3) := by decide +kernel
theorem dX7_restoreSnapshot_4 : decode cX7_restoreSnapshot 4 = .ok (.iload_n 1, 1) := by decide +kernel
theorem dX7_restoreSnapshot_5 : decode cX7_restoreSnapshot 5 = .ok (.iconst 2, 1) := by decide +kernel
theorem dX7_restoreSnapshot_6 : decode cX7_restoreSnapshot 6 = .ok (.if_icmp .ge 12, 3) := by decide +kernel
theorem dX7_restoreSnapshot_9 : decode cX7_restoreSnapshot 9 = .ok (.aload_n 0, 1) := by decide +kernel
theorem dX7_restoreSnapshot_10 : decode cX7_restoreSnapshot 10 = .ok (.getfield 36, 3) := by decide +kernel
theorem dX7_restoreSnapshot_13 : decode cX7_restoreSnapshot 13 = .ok (.iload_n 1, 1) := by decide +kernel
theorem dX7_restoreSnapshot_14 : decode cX7_restoreSnapshot 14 = .ok (.baload, 1) := by decide +kernel
theorem dX7_restoreSnapshot_15 : decode cX7_restoreSnapshot 15 = .ok (.ifCond .ne 5, 3) := by decide +kernel
theorem dX7_restoreSnapshot_18 : decode cX7_restoreSnapshot 18 = .ok (.iconst 0, 1) := by decide +kernel
theorem dX7_restoreSnapshot_19 : decode cX7_restoreSnapshot 19 = .ok (.ireturn, 1) := by decide +kernel
theorem dX7_restoreSnapshot_20 : decode cX7_restoreSnapshot 20 = .ok (.aload_n 0, 1) := by decide +kernel
theorem dX7_restoreSnapshot_21 : decode cX7_restoreSnapshot 21 = .ok (.getfield 19, 3) := by decide +kernel
theorem dX7_restoreSnapshot_24 : decode cX7_restoreSnapshot 24 = .ok (.getfield 99, 3) := by decide +kernel
theorem dX7_restoreSnapshot_27 : decode cX7_restoreSnapshot 27 = .ok (.aload_n 0, 1) := by decide +kernel
theorem dX7_restoreSnapshot_28 : decode cX7_restoreSnapshot 28 = .ok (.getfield 32, 3) := by decide +kernel
theorem dX7_restoreSnapshot_31 : decode cX7_restoreSnapshot 31 = .ok (.iload_n 1, 1) := by decide +kernel
theorem dX7_restoreSnapshot_32 : decode cX7_restoreSnapshot 32 = .ok (.aaload, 1) := by decide +kernel
theorem dX7_restoreSnapshot_33 : decode cX7_restoreSnapshot 33 = .ok (.invokevirtual 296, 3) := by decide +kernel
theorem dX7_restoreSnapshot_36 : decode cX7_restoreSnapshot 36 = .ok (.aload_n 0, 1) := by decide +kernel
theorem dX7_restoreSnapshot_37 : decode cX7_restoreSnapshot 37 = .ok (.getfield 26, 3) := by decide +kernel
theorem dX7_restoreSnapshot_40 : decode cX7_restoreSnapshot 40 = .ok (.invokevirtual 79, 3) := by decide +kernel
theorem dX7_restoreSnapshot_43 : decode cX7_restoreSnapshot 43 = .ok (.iconst 1, 1) := by decide +kernel
theorem dX7_restoreSnapshot_44 : decode cX7_restoreSnapshot 44 = .ok (.ireturn, 1) := by decide +kernel
theorem dX7_requireDevice_0 : decode cX7_requireDevice 0 = .ok (.aload_n 0, 1) := by decide +kernel
theorem dX7_requireDevice_1 : decode cX7_requireDevice 1 = .ok (.getfield 19, 3) := by decide +kernel
theorem dX7_requireDevice_4 : decode cX7_requireDevice 4 = .ok (.iload_n 1, 1) := by decide +kernel
theorem dX7_requireDevice_5 : decode cX7_requireDevice 5 = .ok (.invokevirtual 299, 3) := by decide +kernel
theorem dX7_requireDevice_8 : decode cX7_requireDevice 8 = .ok (.ifCond .ne 14, 3) := by decide +kernel
theorem dX7_requireDevice_11 : decode cX7_requireDevice 11 = .ok (.new 302, 3) := by decide +kernel
theorem dX7_requireDevice_14 : decode cX7_requireDevice 14 = .ok (.dup, 1) := by decide +kernel
theorem dX7_requireDevice_15 : decode cX7_requireDevice 15 = .ok (.ldc_w 304, 3) := by decide +kernel
theorem dX7_requireDevice_18 : decode cX7_requireDevice 18 = .ok (.invokespecial 306, 3) := by decide +kernel
theorem dX7_requireDevice_21 : decode cX7_requireDevice 21 = .ok (.athrow, 1) := by decide +kernel
theorem dX7_requireDevice_22 : decode cX7_requireDevice 22 = .ok (.return_, 1) := by decide +kernel
theorem dX7_requireStream_0 : decode cX7_requireStream 0 = .ok (.iload_n 1, 1) := by decide +kernel
theorem dX7_requireStream_1 : decode cX7_requireStream 1 = .ok (.ifCond .lt 17, 3) := by decide +kernel
theorem dX7_requireStream_4 : decode cX7_requireStream 4 = .ok (.iload_n 1, 1) := by decide +kernel
theorem dX7_requireStream_5 : decode cX7_requireStream 5 = .ok (.aload_n 0, 1) := by decide +kernel
theorem dX7_requireStream_6 : decode cX7_requireStream 6 = .ok (.getfield 19, 3) := by decide +kernel
theorem dX7_requireStream_9 : decode cX7_requireStream 9 = .ok (.getfield 67, 3) := by decide +kernel
theorem dX7_requireStream_12 : decode cX7_requireStream 12 = .ok (.getfield 82, 3) := by decide +kernel
theorem dX7_requireStream_15 : decode cX7_requireStream 15 = .ok (.if_icmp .lt 14, 3) := by decide +kernel
theorem dX7_requireStream_18 : decode cX7_requireStream 18 = .ok (.new 302, 3) := by decide +kernel
theorem dX7_requireStream_21 : decode cX7_requireStream 21 = .ok (.dup, 1) := by decide +kernel
theorem dX7_requireStream_22 : decode cX7_requireStream 22 = .ok (.ldc_w 307, 3) := by decide +kernel
theorem dX7_requireStream_25 : decode cX7_requireStream 25 = .ok (.invokespecial 306, 3) := by decide +kernel
theorem dX7_requireStream_28 : decode cX7_requireStream 28 = .ok (.athrow, 1) := by decide +kernel
theorem dX7_requireStream_29 : decode cX7_requireStream 29 = .ok (.return_, 1) := by decide +kernel
theorem dX7_requirePort_0 : decode cX7_requirePort 0 = .ok (.iload_n 1, 1) := by decide +kernel
theorem dX7_requirePort_1 : decode cX7_requirePort 1 = .ok (.ifCond .lt 17, 3) := by decide +kernel
theorem dX7_requirePort_4 : decode cX7_requirePort 4 = .ok (.iload_n 1, 1) := by decide +kernel
theorem dX7_requirePort_5 : decode cX7_requirePort 5 = .ok (.aload_n 0, 1) := by decide +kernel
theorem dX7_requirePort_6 : decode cX7_requirePort 6 = .ok (.getfield 19, 3) := by decide +kernel
theorem dX7_requirePort_9 : decode cX7_requirePort 9 = .ok (.getfield 67, 3) := by decide +kernel
theorem dX7_requirePort_12 : decode cX7_requirePort 12 = .ok (.getfield 96, 3) := by decide +kernel
theorem dX7_requirePort_15 : decode cX7_requirePort 15 = .ok (.if_icmp .lt 14, 3) := by decide +kernel
theorem dX7_requirePort_18 : decode cX7_requirePort 18 = .ok (.new 302, 3) := by decide +kernel
theorem dX7_requirePort_21 : decode cX7_requirePort 21 = .ok (.dup, 1) := by decide +kernel
theorem dX7_requirePort_22 : decode cX7_requirePort 22 = .ok (.ldc_w 309, 3) := by decide +kernel
theorem dX7_requirePort_25 : decode cX7_requirePort 25 = .ok (.invokespecial 306, 3) := by decide +kernel
theorem dX7_requirePort_28 : decode cX7_requirePort 28 = .ok (.athrow, 1) := by decide +kernel
theorem dX7_requirePort_29 : decode cX7_requirePort 29 = .ok (.return_, 1) := by decide +kernel
theorem dX7_requireKind_0 : decode cX7_requireKind 0 = .ok (.iload_n 1, 1) := by decide +kernel
theorem dX7_requireKind_1 : decode cX7_requireKind 1 = .ok (.ifCond .lt 8, 3) := by decide +kernel
theorem dX7_requireKind_4 : decode cX7_requireKind 4 = .ok (.iload_n 1, 1) := by decide +kernel
theorem dX7_requireKind_5 : decode cX7_requireKind 5 = .ok (.iconst 4, 1) := by decide +kernel
theorem dX7_requireKind_6 : decode cX7_requireKind 6 = .ok (.if_icmp .lt 14, 3) := by decide +kernel
theorem dX7_requireKind_9 : decode cX7_requireKind 9 = .ok (.new 53, 3) := by decide +kernel
theorem dX7_requireKind_12 : decode cX7_requireKind 12 = .ok (.dup, 1) := by decide +kernel
theorem dX7_requireKind_13 : decode cX7_requireKind 13 = .ok (.ldc_w 311, 3) := by decide +kernel
theorem dX7_requireKind_16 : decode cX7_requireKind 16 = .ok (.invokespecial 57, 3) := by decide +kernel
theorem dX7_requireKind_19 : decode cX7_requireKind 19 = .ok (.athrow, 1) := by decide +kernel
theorem dX7_requireKind_20 : decode cX7_requireKind 20 = .ok (.return_, 1) := by decide +kernel
theorem dX7_requirePluggedIn_0 : decode cX7_requirePluggedIn 0 = .ok (.aload_n 0, 1) := by decide +kernel
theorem dX7_requirePluggedIn_1 : decode cX7_requirePluggedIn 1 = .ok (.getfield 19, 3) := by decide +kernel
theorem dX7_requirePluggedIn_4 : decode cX7_requirePluggedIn 4 = .ok (.iload_n 1, 1) := by decide +kernel
theorem dX7_requirePluggedIn_5 : decode cX7_requirePluggedIn 5 = .ok (.invokevirtual 209, 3) := by decide +kernel
theorem dX7_requirePluggedIn_8 : decode cX7_requirePluggedIn 8 = .ok (.ifCond .ne 14, 3) := by decide +kernel
theorem dX7_requirePluggedIn_11 : decode cX7_requirePluggedIn 11 = .ok (.new 259, 3) := by decide +kernel
theorem dX7_requirePluggedIn_14 : decode cX7_requirePluggedIn 14 = .ok (.dup, 1) := by decide +kernel
theorem dX7_requirePluggedIn_15 : decode cX7_requirePluggedIn 15 = .ok (.ldc_w 313, 3) := by decide +kernel
theorem dX7_requirePluggedIn_18 : decode cX7_requirePluggedIn 18 = .ok (.invokespecial 263, 3) := by decide +kernel
theorem dX7_requirePluggedIn_21 : decode cX7_requirePluggedIn 21 = .ok (.athrow, 1) := by decide +kernel
theorem dX7_requirePluggedIn_22 : decode cX7_requirePluggedIn 22 = .ok (.return_, 1) := by decide +kernel
theorem dJ5_init_a7421_0 : decode cJ5_init_a7421 0 = .ok (.aload_n 0, 1) := by decide +kernel
theorem dJ5_init_a7421_1 : decode cJ5_init_a7421 1 = .ok (.invokespecial 3, 3) := by decide +kernel
theorem dJ5_init_a7421_4 : decode cJ5_init_a7421 4 = .ok (.aload_n 1, 1) := by decide +kernel
theorem dJ5_init_a7421_5 : decode cJ5_init_a7421 5 = .ok (.invokevirtual 32, 3) := by decide +kernel
theorem dJ5_init_a7421_8 : decode cJ5_init_a7421 8 = .ok (.istore_n 2, 1) := by decide +kernel
theorem dJ5_init_a7421_9 : decode cJ5_init_a7421 9 = .ok (.iload_n 2, 1) := by decide +kernel
theorem dJ5_init_a7421_10 : decode cJ5_init_a7421 10 = .ok (.ldc 38, 2) := by decide +kernel
theorem dJ5_init_a7421_12 : decode cJ5_init_a7421 12 = .ok (.if_icmp .ge 10, 3) := by decide +kernel
theorem dJ5_init_a7421_15 : decode cJ5_init_a7421 15 = .ok (.iload_n 2, 1) := by decide +kernel
theorem dJ5_init_a7421_16 : decode cJ5_init_a7421 16 = .ok (.bipush 16, 2) := by decide +kernel
theorem dJ5_init_a7421_18 : decode cJ5_init_a7421 18 = .ok (.iadd, 1) := by decide +kernel
theorem dJ5_init_a7421_19 : decode cJ5_init_a7421 19 = .ok (.goto 5, 3) := by decide +kernel
theorem dJ5_init_a7421_22 : decode cJ5_init_a7421 22 = .ok (.ldc 39, 2) := by decide +kernel
theorem dJ5_init_a7421_24 : decode cJ5_init_a7421 24 = .ok (.istore_n 3, 1) := by decide +kernel
theorem dJ5_init_a7421_25 : decode cJ5_init_a7421 25 = .ok (.aload_n 1, 1) := by decide +kernel
theorem dJ5_init_a7421_26 : decode cJ5_init_a7421 26 = .ok (.invokevirtual 40, 3) := by decide +kernel
theorem dJ5_init_a7421_29 : decode cJ5_init_a7421 29 = .ok (.istore 4, 2) := by decide +kernel
theorem dJ5_init_a7421_31 : decode cJ5_init_a7421 31 = .ok (.aload_n 0, 1) := by decide +kernel
theorem dJ5_init_a7421_32 : decode cJ5_init_a7421 32 = .ok (.iload 4, 2) := by decide +kernel
theorem dJ5_init_a7421_34 : decode cJ5_init_a7421 34 = .ok (.putfield 22, 3) := by decide +kernel
theorem dJ5_init_a7421_37 : decode cJ5_init_a7421 37 = .ok (.aload_n 0, 1) := by decide +kernel
theorem dJ5_init_a7421_38 : decode cJ5_init_a7421 38 = .ok (.iload 4, 2) := by decide +kernel
theorem dJ5_init_a7421_40 : decode cJ5_init_a7421 40 = .ok (.ifCond .ne 9, 3) := by decide +kernel
theorem dJ5_init_a7421_43 : decode cJ5_init_a7421 43 = .ok (.iload_n 3, 1) := by decide +kernel
theorem dJ5_init_a7421_44 : decode cJ5_init_a7421 44 = .ok (.newarray .byte, 2) := by decide +kernel
theorem dJ5_init_a7421_46 : decode cJ5_init_a7421 46 = .ok (.goto 7, 3) := by decide +kernel
theorem dJ5_init_a7421_49 : decode cJ5_init_a7421 49 = .ok (.iload_n 3, 1) := by decide +kernel
theorem dJ5_init_a7421_50 : decode cJ5_init_a7421 50 = .ok (.invokestatic 26, 3) := by decide +kernel
theorem dJ5_init_a7421_53 : decode cJ5_init_a7421 53 = .ok (.putfield 15, 3) := by decide +kernel
theorem dJ5_init_a7421_56 : decode cJ5_init_a7421 56 = .ok (.aload_n 0, 1) := by decide +kernel
theorem dJ5_init_a7421_57 : decode cJ5_init_a7421 57 = .ok (.aload_n 1, 1) := by decide +kernel
theorem dJ5_init_a7421_58 : decode cJ5_init_a7421 58 = .ok (.invokevirtual 43, 3) := by decide +kernel
theorem dJ5_init_a7421_61 : decode cJ5_init_a7421 61 = .ok (.pop, 1) := by decide +kernel
theorem dJ5_init_a7421_62 : decode cJ5_init_a7421 62 = .ok (.return_, 1) := by decide +kernel
theorem dJ5_length_8abf5_0 : decode cJ5_length_8abf5 0 = .ok (.aload_n 0, 1) := by decide +kernel
theorem dJ5_length_8abf5_1 : decode cJ5_length_8abf5 1 = .ok (.getfield 79, 3) := by decide +kernel
theorem dJ5_length_8abf5_4 : decode cJ5_length_8abf5 4 = .ok (.ireturn, 1) := by decide +kernel
theorem dJ5_ensureCapacityInternal_d00df_0 : decode cJ5_ensureCapacityInternal_d00df 0 = .ok (.aload_n 0, 1) := by decide +kernel
theorem dJ5_ensureCapacityInternal_d00df_1 : decode cJ5_ensureCapacityInternal_d00df 1 = .ok (.getfield 15, 3) := by decide +kernel
theorem dJ5_ensureCapacityInternal_d00df_4 : decode cJ5_ensureCapacityInternal_d00df 4 = .ok (.arraylength, 1) := by decide +kernel
theorem dJ5_ensureCapacityInternal_d00df_5 : decode cJ5_ensureCapacityInternal_d00df 5 = .ok (.aload_n 0, 1) := by decide +kernel
theorem dJ5_ensureCapacityInternal_d00df_6 : decode cJ5_ensureCapacityInternal_d00df 6 = .ok (.getfield 22, 3) := by decide +kernel
theorem dJ5_ensureCapacityInternal_d00df_9 : decode cJ5_ensureCapacityInternal_d00df 9 = .ok (.ishr, 1) := by decide +kernel
theorem dJ5_ensureCapacityInternal_d00df_10 : decode cJ5_ensureCapacityInternal_d00df 10 = .ok (.istore_n 2, 1) := by decide +kernel
theorem dJ5_ensureCapacityInternal_d00df_11 : decode cJ5_ensureCapacityInternal_d00df 11 = .ok (.iload_n 1, 1) := by decide +kernel
theorem dJ5_ensureCapacityInternal_d00df_12 : decode cJ5_ensureCapacityInternal_d00df 12 = .ok (.iload_n 2, 1) := by decide +kernel
theorem dJ5_ensureCapacityInternal_d00df_13 : decode cJ5_ensureCapacityInternal_d00df 13 = .ok (.isub, 1) := by decide +kernel
theorem dJ5_ensureCapacityInternal_d00df_14 : decode cJ5_ensureCapacityInternal_d00df 14 = .ok (.ifCond .le 24, 3) := by decide +kernel
theorem dJ5_ensureCapacityInternal_d00df_17 : decode cJ5_ensureCapacityInternal_d00df 17 = .ok (.aload_n 0, 1) := by decide +kernel
theorem dJ5_ensureCapacityInternal_d00df_18 : decode cJ5_ensureCapacityInternal_d00df 18 = .ok (.aload_n 0, 1) := by decide +kernel
theorem dJ5_ensureCapacityInternal_d00df_19 : decode cJ5_ensureCapacityInternal_d00df 19 = .ok (.getfield 15, 3) := by decide +kernel
theorem dJ5_ensureCapacityInternal_d00df_22 : decode cJ5_ensureCapacityInternal_d00df 22 = .ok (.aload_n 0, 1) := by decide +kernel
theorem dJ5_ensureCapacityInternal_d00df_23 : decode cJ5_ensureCapacityInternal_d00df 23 = .ok (.iload_n 1, 1) := by decide +kernel
theorem dJ5_ensureCapacityInternal_d00df_24 : decode cJ5_ensureCapacityInternal_d00df 24 = .ok (.invokevirtual 104, 3) := by decide +kernel
theorem dJ5_ensureCapacityInternal_d00df_27 : decode cJ5_ensureCapacityInternal_d00df 27 = .ok (.aload_n 0, 1) := by decide +kernel
theorem dJ5_ensureCapacityInternal_d00df_28 : decode cJ5_ensureCapacityInternal_d00df 28 = .ok (.getfield 22, 3) := by decide +kernel
theorem dJ5_ensureCapacityInternal_d00df_31 : decode cJ5_ensureCapacityInternal_d00df 31 = .ok (.ishl, 1) := by decide +kernel
theorem dJ5_ensureCapacityInternal_d00df_32 : decode cJ5_ensureCapacityInternal_d00df 32 = .ok (.invokestatic 108, 3) := by decide +kernel
theorem dJ5_ensureCapacityInternal_d00df_35 : decode cJ5_ensureCapacityInternal_d00df 35 = .ok (.putfield 15, 3) := by decide +kernel
theorem dJ5_ensureCapacityInternal_d00df_38 : decode cJ5_ensureCapacityInternal_d00df 38 = .ok (.return_, 1) := by decide +kernel
theorem dJ5_newCapacity_0f7a4_0 : decode cJ5_newCapacity_0f7a4 0 = .ok (.aload_n 0, 1) := by decide +kernel
theorem dJ5_newCapacity_0f7a4_1 : decode cJ5_newCapacity_0f7a4 1 = .ok (.getfield 15, 3) := by decide +kernel
theorem dJ5_newCapacity_0f7a4_4 : decode cJ5_newCapacity_0f7a4 4 = .ok (.arraylength, 1) := by decide +kernel
theorem dJ5_newCapacity_0f7a4_5 : decode cJ5_newCapacity_0f7a4 5 = .ok (.istore_n 2, 1) := by decide +kernel
theorem dJ5_newCapacity_0f7a4_6 : decode cJ5_newCapacity_0f7a4 6 = .ok (.iload_n 1, 1) := by decide +kernel
theorem dJ5_newCapacity_0f7a4_7 : decode cJ5_newCapacity_0f7a4 7 = .ok (.aload_n 0, 1) := by decide +kernel
theorem dJ5_newCapacity_0f7a4_8 : decode cJ5_newCapacity_0f7a4 8 = .ok (.getfield 22, 3) := by decide +kernel
theorem dJ5_newCapacity_0f7a4_11 : decode cJ5_newCapacity_0f7a4 11 = .ok (.ishl, 1) := by decide +kernel
theorem dJ5_newCapacity_0f7a4_12 : decode cJ5_newCapacity_0f7a4 12 = .ok (.istore_n 3, 1) := by decide +kernel
theorem dJ5_newCapacity_0f7a4_13 : decode cJ5_newCapacity_0f7a4 13 = .ok (.iload_n 3, 1) := by decide +kernel
theorem dJ5_newCapacity_0f7a4_14 : decode cJ5_newCapacity_0f7a4 14 = .ok (.iload_n 2, 1) := by decide +kernel
theorem dJ5_newCapacity_0f7a4_15 : decode cJ5_newCapacity_0f7a4 15 = .ok (.isub, 1) := by decide +kernel
theorem dJ5_newCapacity_0f7a4_16 : decode cJ5_newCapacity_0f7a4 16 = .ok (.istore 4, 2) := by decide +kernel
theorem dJ5_newCapacity_0f7a4_18 : decode cJ5_newCapacity_0f7a4 18 = .ok (.iload_n 2, 1) := by decide +kernel
theorem dJ5_newCapacity_0f7a4_19 : decode cJ5_newCapacity_0f7a4 19 = .ok (.iload 4, 2) := by decide +kernel
theorem dJ5_newCapacity_0f7a4_21 : decode cJ5_newCapacity_0f7a4 21 = .ok (.iload_n 2, 1) := by decide +kernel
theorem dJ5_newCapacity_0f7a4_22 : decode cJ5_newCapacity_0f7a4 22 = .ok (.iconst 2, 1) := by decide +kernel
theorem dJ5_newCapacity_0f7a4_23 : decode cJ5_newCapacity_0f7a4 23 = .ok (.aload_n 0, 1) := by decide +kernel
theorem dJ5_newCapacity_0f7a4_24 : decode cJ5_newCapacity_0f7a4 24 = .ok (.getfield 22, 3) := by decide +kernel
theorem dJ5_newCapacity_0f7a4_27 : decode cJ5_newCapacity_0f7a4 27 = .ok (.ishl, 1) := by decide +kernel
theorem dJ5_newCapacity_0f7a4_28 : decode cJ5_newCapacity_0f7a4 28 = .ok (.iadd, 1) := by decide +kernel
theorem dJ5_newCapacity_0f7a4_29 : decode cJ5_newCapacity_0f7a4 29 = .ok (.invokestatic 114, 3) := by decide +kernel
theorem dJ5_newCapacity_0f7a4_32 : decode cJ5_newCapacity_0f7a4 32 = .ok (.istore 5, 2) := by decide +kernel
theorem dJ5_newCapacity_0f7a4_34 : decode cJ5_newCapacity_0f7a4 34 = .ok (.iload 5, 2) := by decide +kernel
theorem dJ5_newCapacity_0f7a4_36 : decode cJ5_newCapacity_0f7a4 36 = .ok (.ldc 39, 2) := by decide +kernel
theorem dJ5_newCapacity_0f7a4_38 : decode cJ5_newCapacity_0f7a4 38 = .ok (.if_icmp .ne 13, 3) := by decide +kernel
theorem dJ5_newCapacity_0f7a4_41 : decode cJ5_newCapacity_0f7a4 41 = .ok (.new 120, 3) := by decide +kernel
theorem dJ5_newCapacity_0f7a4_44 : decode cJ5_newCapacity_0f7a4 44 = .ok (.dup, 1) := by decide +kernel
theorem dJ5_newCapacity_0f7a4_45 : decode cJ5_newCapacity_0f7a4 45 = .ok (.ldc 122, 2) := by decide +kernel
theorem dJ5_newCapacity_0f7a4_47 : decode cJ5_newCapacity_0f7a4 47 = .ok (.invokespecial 124, 3) := by decide +kernel
theorem dJ5_newCapacity_0f7a4_50 : decode cJ5_newCapacity_0f7a4 50 = .ok (.athrow, 1) := by decide +kernel
theorem dJ5_newCapacity_0f7a4_51 : decode cJ5_newCapacity_0f7a4 51 = .ok (.iload 5, 2) := by decide +kernel
theorem dJ5_newCapacity_0f7a4_53 : decode cJ5_newCapacity_0f7a4 53 = .ok (.aload_n 0, 1) := by decide +kernel
theorem dJ5_newCapacity_0f7a4_54 : decode cJ5_newCapacity_0f7a4 54 = .ok (.getfield 22, 3) := by decide +kernel
theorem dJ5_newCapacity_0f7a4_57 : decode cJ5_newCapacity_0f7a4 57 = .ok (.ishr, 1) := by decide +kernel
theorem dJ5_newCapacity_0f7a4_58 : decode cJ5_newCapacity_0f7a4 58 = .ok (.ireturn, 1) := by decide +kernel
theorem dJ5_inflate_da8c8_0 : decode cJ5_inflate_da8c8 0 = .ok (.aload_n 0, 1) := by decide +kernel
theorem dJ5_inflate_da8c8_1 : decode cJ5_inflate_da8c8 1 = .ok (.invokevirtual 83, 3) := by decide +kernel
theorem dJ5_inflate_da8c8_4 : decode cJ5_inflate_da8c8 4 = .ok (.ifCond .ne 4, 3) := by decide +kernel
theorem dJ5_inflate_da8c8_7 : decode cJ5_inflate_da8c8 7 = .ok (.return_, 1) := by decide +kernel
theorem dJ5_inflate_da8c8_8 : decode cJ5_inflate_da8c8 8 = .ok (.aload_n 0, 1) := by decide +kernel
theorem dJ5_inflate_da8c8_9 : decode cJ5_inflate_da8c8 9 = .ok (.getfield 15, 3) := by decide +kernel
theorem dJ5_inflate_da8c8_12 : decode cJ5_inflate_da8c8 12 = .ok (.arraylength, 1) := by decide +kernel
theorem dJ5_inflate_da8c8_13 : decode cJ5_inflate_da8c8 13 = .ok (.invokestatic 26, 3) := by decide +kernel
theorem dJ5_inflate_da8c8_16 : decode cJ5_inflate_da8c8 16 = .ok (.astore_n 1, 1) := by decide +kernel
theorem dJ5_inflate_da8c8_17 : decode cJ5_inflate_da8c8 17 = .ok (.aload_n 0, 1) := by decide +kernel
theorem dJ5_inflate_da8c8_18 : decode cJ5_inflate_da8c8 18 = .ok (.getfield 15, 3) := by decide +kernel
theorem dJ5_inflate_da8c8_21 : decode cJ5_inflate_da8c8 21 = .ok (.iconst 0, 1) := by decide +kernel
theorem dJ5_inflate_da8c8_22 : decode cJ5_inflate_da8c8 22 = .ok (.aload_n 1, 1) := by decide +kernel
theorem dJ5_inflate_da8c8_23 : decode cJ5_inflate_da8c8 23 = .ok (.iconst 0, 1) := by decide +kernel
theorem dJ5_inflate_da8c8_24 : decode cJ5_inflate_da8c8 24 = .ok (.aload_n 0, 1) := by decide +kernel
theorem dJ5_inflate_da8c8_25 : decode cJ5_inflate_da8c8 25 = .ok (.getfield 79, 3) := by decide +kernel
theorem dJ5_inflate_da8c8_28 : decode cJ5_inflate_da8c8 28 = .ok (.invokestatic 125, 3) := by decide +kernel
theorem dJ5_inflate_da8c8_31 : decode cJ5_inflate_da8c8 31 = .ok (.aload_n 0, 1) := by decide +kernel
theorem dJ5_inflate_da8c8_32 : decode cJ5_inflate_da8c8 32 = .ok (.aload_n 1, 1) := by decide +kernel
theorem dJ5_inflate_da8c8_33 : decode cJ5_inflate_da8c8 33 = .ok (.putfield 15, 3) := by decide +kernel
theorem dJ5_inflate_da8c8_36 : decode cJ5_inflate_da8c8 36 = .ok (.aload_n 0, 1) := by decide +kernel
theorem dJ5_inflate_da8c8_37 : decode cJ5_inflate_da8c8 37 = .ok (.iconst 1, 1) := by decide +kernel
theorem dJ5_inflate_da8c8_38 : decode cJ5_inflate_da8c8 38 = .ok (.putfield 22, 3) := by decide +kernel
theorem dJ5_inflate_da8c8_41 : decode cJ5_inflate_da8c8 41 = .ok (.return_, 1) := by decide +kernel
theorem dJ5_charAt_5068e_0 : decode cJ5_charAt_5068e 0 = .ok (.aload_n 0, 1) := by decide +kernel
theorem dJ5_charAt_5068e_1 : decode cJ5_charAt_5068e 1 = .ok (.getfield 22, 3) := by decide +kernel
theorem dJ5_charAt_5068e_4 : decode cJ5_charAt_5068e 4 = .ok (.istore_n 2, 1) := by decide +kernel
theorem dJ5_charAt_5068e_5 : decode cJ5_charAt_5068e 5 = .ok (.aload_n 0, 1) := by decide +kernel
theorem dJ5_charAt_5068e_6 : decode cJ5_charAt_5068e 6 = .ok (.getfield 15, 3) := by decide +kernel
theorem dJ5_charAt_5068e_9 : decode cJ5_charAt_5068e 9 = .ok (.astore_n 3, 1) := by decide +kernel
theorem dJ5_charAt_5068e_10 : decode cJ5_charAt_5068e 10 = .ok (.aload_n 0, 1) := by decide +kernel
theorem dJ5_charAt_5068e_11 : decode cJ5_charAt_5068e 11 = .ok (.getfield 79, 3) := by decide +kernel
theorem dJ5_charAt_5068e_14 : decode cJ5_charAt_5068e 14 = .ok (.aload_n 3, 1) := by decide +kernel
theorem dJ5_charAt_5068e_15 : decode cJ5_charAt_5068e 15 = .ok (.arraylength, 1) := by decide +kernel
theorem dJ5_charAt_5068e_16 : decode cJ5_charAt_5068e 16 = .ok (.iload_n 2, 1) := by decide +kernel
theorem dJ5_charAt_5068e_17 : decode cJ5_charAt_5068e 17 = .ok (.ishr, 1) := by decide +kernel
theorem dJ5_charAt_5068e_18 : decode cJ5_charAt_5068e 18 = .ok (.invokestatic 138, 3) := by decide +kernel
theorem dJ5_charAt_5068e_21 : decode cJ5_charAt_5068e 21 = .ok (.istore 4, 2) := by decide +kernel
theorem dJ5_charAt_5068e_23 : decode cJ5_charAt_5068e 23 = .ok (.iload_n 1, 1) := by decide +kernel
theorem dJ5_charAt_5068e_24 : decode cJ5_charAt_5068e 24 = .ok (.iload 4, 2) := by decide +kernel
theorem dJ5_charAt_5068e_26 : decode cJ5_charAt_5068e 26 = .ok (.invokestatic 144, 3) := by decide +kernel
theorem dJ5_charAt_5068e_29 : decode cJ5_charAt_5068e 29 = .ok (.iload_n 2, 1) := by decide +kernel
theorem dJ5_charAt_5068e_30 : decode cJ5_charAt_5068e 30 = .ok (.ifCond .ne 12, 3) := by decide +kernel
theorem dJ5_charAt_5068e_33 : decode cJ5_charAt_5068e 33 = .ok (.aload_n 3, 1) := by decide +kernel
theorem dJ5_charAt_5068e_34 : decode cJ5_charAt_5068e 34 = .ok (.iload_n 1, 1) := by decide +kernel
theorem dJ5_charAt_5068e_35 : decode cJ5_charAt_5068e 35 = .ok (.baload, 1) := by decide +kernel
theorem dJ5_charAt_5068e_36 : decode cJ5_charAt_5068e 36 = .ok (.sipush 255, 3) := by decide +kernel
theorem dJ5_charAt_5068e_39 : decode cJ5_charAt_5068e 39 = .ok (.iand, 1) := by decide +kernel
theorem dJ5_charAt_5068e_40 : decode cJ5_charAt_5068e 40 = .ok (.i2c, 1) := by decide +kernel
theorem dJ5_charAt_5068e_41 : decode cJ5_charAt_5068e 41 = .ok (.ireturn, 1) := by decide +kernel
theorem dJ5_charAt_5068e_42 : decode cJ5_charAt_5068e 42 = .ok (.aload_n 3, 1) := by decide +kernel
theorem dJ5_charAt_5068e_43 : decode cJ5_charAt_5068e 43 = .ok (.iload_n 1, 1) := by decide +kernel
theorem dJ5_charAt_5068e_44 : decode cJ5_charAt_5068e 44 = .ok (.invokestatic 148, 3) := by decide +kernel
theorem dJ5_charAt_5068e_47 : decode cJ5_charAt_5068e 47 = .ok (.ireturn, 1) := by decide +kernel
theorem dJ5_append_cf1ce_0 : decode cJ5_append_cf1ce 0 = .ok (.aload_n 1, 1) := by decide +kernel
theorem dJ5_append_cf1ce_1 : decode cJ5_append_cf1ce 1 = .ok (.ifnonnull 8, 3) := by decide +kernel
theorem dJ5_append_cf1ce_4 : decode cJ5_append_cf1ce 4 = .ok (.aload_n 0, 1) := by decide +kernel
theorem dJ5_append_cf1ce_5 : decode cJ5_append_cf1ce 5 = .ok (.invokevirtual 204, 3) := by decide +kernel
theorem dJ5_append_cf1ce_8 : decode cJ5_append_cf1ce 8 = .ok (.areturn, 1) := by decide +kernel
theorem dJ5_append_cf1ce_9 : decode cJ5_append_cf1ce 9 = .ok (.aload_n 1, 1) := by decide +kernel
theorem dJ5_append_cf1ce_10 : decode cJ5_append_cf1ce 10 = .ok (.invokevirtual 32, 3) := by decide +kernel
theorem dJ5_append_cf1ce_13 : decode cJ5_append_cf1ce 13 = .ok (.istore_n 2, 1) := by decide +kernel
theorem dJ5_append_cf1ce_14 : decode cJ5_append_cf1ce 14 = .ok (.aload_n 0, 1) := by decide +kernel
theorem dJ5_append_cf1ce_15 : decode cJ5_append_cf1ce 15 = .ok (.aload_n 0, 1) := by decide +kernel
theorem dJ5_append_cf1ce_16 : decode cJ5_append_cf1ce 16 = .ok (.getfield 79, 3) := by decide +kernel
theorem dJ5_append_cf1ce_19 : decode cJ5_append_cf1ce 19 = .ok (.iload_n 2, 1) := by decide +kernel
theorem dJ5_append_cf1ce_20 : decode cJ5_append_cf1ce 20 = .ok (.iadd, 1) := by decide +kernel
theorem dJ5_append_cf1ce_21 : decode cJ5_append_cf1ce 21 = .ok (.invokevirtual 100, 3) := by decide +kernel
theorem dJ5_append_cf1ce_24 : decode cJ5_append_cf1ce 24 = .ok (.aload_n 0, 1) := by decide +kernel
theorem dJ5_append_cf1ce_25 : decode cJ5_append_cf1ce 25 = .ok (.aload_n 0, 1) := by decide +kernel
theorem dJ5_append_cf1ce_26 : decode cJ5_append_cf1ce 26 = .ok (.getfield 79, 3) := by decide +kernel
theorem dJ5_append_cf1ce_29 : decode cJ5_append_cf1ce 29 = .ok (.aload_n 1, 1) := by decide +kernel
theorem dJ5_append_cf1ce_30 : decode cJ5_append_cf1ce 30 = .ok (.invokevirtual 208, 3) := by decide +kernel
theorem dJ5_append_cf1ce_33 : decode cJ5_append_cf1ce 33 = .ok (.aload_n 0, 1) := by decide +kernel
theorem dJ5_append_cf1ce_34 : decode cJ5_append_cf1ce 34 = .ok (.dup, 1) := by decide +kernel
theorem dJ5_append_cf1ce_35 : decode cJ5_append_cf1ce 35 = .ok (.getfield 79, 3) := by decide +kernel
theorem dJ5_append_cf1ce_38 : decode cJ5_append_cf1ce 38 = .ok (.iload_n 2, 1) := by decide +kernel
theorem dJ5_append_cf1ce_39 : decode cJ5_append_cf1ce 39 = .ok (.iadd, 1) := by decide +kernel
theorem dJ5_append_cf1ce_40 : decode cJ5_append_cf1ce 40 = .ok (.putfield 79, 3) := by decide +kernel
theorem dJ5_append_cf1ce_43 : decode cJ5_append_cf1ce 43 = .ok (.aload_n 0, 1) := by decide +kernel
theorem dJ5_append_cf1ce_44 : decode cJ5_append_cf1ce 44 = .ok (.areturn, 1) := by decide +kernel
theorem dJ5_appendNull_278bc_0 : decode cJ5_appendNull_278bc 0 = .ok (.aload_n 0, 1) := by decide +kernel
theorem dJ5_appendNull_278bc_1 : decode cJ5_appendNull_278bc 1 = .ok (.aload_n 0, 1) := by decide +kernel
theorem dJ5_appendNull_278bc_2 : decode cJ5_appendNull_278bc 2 = .ok (.getfield 79, 3) := by decide +kernel
theorem dJ5_appendNull_278bc_5 : decode cJ5_appendNull_278bc 5 = .ok (.iconst 4, 1) := by decide +kernel
theorem dJ5_appendNull_278bc_6 : decode cJ5_appendNull_278bc 6 = .ok (.iadd, 1) := by decide +kernel
theorem dJ5_appendNull_278bc_7 : decode cJ5_appendNull_278bc 7 = .ok (.invokevirtual 100, 3) := by decide +kernel
theorem dJ5_appendNull_278bc_10 : decode cJ5_appendNull_278bc 10 = .ok (.aload_n 0, 1) := by decide +kernel
theorem dJ5_appendNull_278bc_11 : decode cJ5_appendNull_278bc 11 = .ok (.getfield 79, 3) := by decide +kernel
theorem dJ5_appendNull_278bc_14 : decode cJ5_appendNull_278bc 14 = .ok (.istore_n 1, 1) := by decide +kernel
theorem dJ5_appendNull_278bc_15 : decode cJ5_appendNull_278bc 15 = .ok (.aload_n 0, 1) := by decide +kernel
theorem dJ5_appendNull_278bc_16 : decode cJ5_appendNull_278bc 16 = .ok (.getfield 15, 3) := by decide +kernel
theorem dJ5_appendNull_278bc_19 : decode cJ5_appendNull_278bc 19 = .ok (.astore_n 2, 1) := by decide +kernel
theorem dJ5_appendNull_278bc_20 : decode cJ5_appendNull_278bc 20 = .ok (.aload_n 0, 1) := by decide +kernel
theorem dJ5_appendNull_278bc_21 : decode cJ5_appendNull_278bc 21 = .ok (.invokevirtual 83, 3) := by decide +kernel
theorem dJ5_appendNull_278bc_24 : decode cJ5_appendNull_278bc 24 = .ok (.ifCond .eq 38, 3) := by decide +kernel
theorem dJ5_appendNull_278bc_27 : decode cJ5_appendNull_278bc 27 = .ok (.aload_n 2, 1) := by decide +kernel
theorem dJ5_appendNull_278bc_28 : decode cJ5_appendNull_278bc 28 = .ok (.iload_n 1, 1) := by decide +kernel
theorem dJ5_appendNull_278bc_29 : decode cJ5_appendNull_278bc 29 = .ok (.iinc 1 1, 3) := by decide +kernel
theorem dJ5_appendNull_278bc_32 : decode cJ5_appendNull_278bc 32 = .ok (.bipush 110, 2) := by decide +kernel
theorem dJ5_appendNull_278bc_34 : decode cJ5_appendNull_278bc 34 = .ok (.bastore, 1) := by decide +kernel
theorem dJ5_appendNull_278bc_35 : decode cJ5_appendNull_278bc 35 = .ok (.aload_n 2, 1) := by decide +kernel
theorem dJ5_appendNull_278bc_36 : decode cJ5_appendNull_278bc 36 = .ok (.iload_n 1, 1) := by decide +kernel
theorem dJ5_appendNull_278bc_37 : decode cJ5_appendNull_278bc 37 = .ok (.iinc 1 1, 3) := by decide +kernel
theorem dJ5_appendNull_278bc_40 : decode cJ5_appendNull_278bc 40 = .ok (.bipush 117, 2) := by decide +kernel
theorem dJ5_appendNull_278bc_42 : decode cJ5_appendNull_278bc 42 = .ok (.bastore, 1) := by decide +kernel
theorem dJ5_appendNull_278bc_43 : decode cJ5_appendNull_278bc 43 = .ok (.aload_n 2, 1) := by decide +kernel
theorem dJ5_appendNull_278bc_44 : decode cJ5_appendNull_278bc 44 = .ok (.iload_n 1, 1) := by decide +kernel
theorem dJ5_appendNull_278bc_45 : decode cJ5_appendNull_278bc 45 = .ok (.iinc 1 1, 3) := by decide +kernel
theorem dJ5_appendNull_278bc_48 : decode cJ5_appendNull_278bc 48 = .ok (.bipush 108, 2) := by decide +kernel
theorem dJ5_appendNull_278bc_50 : decode cJ5_appendNull_278bc 50 = .ok (.bastore, 1) := by decide +kernel
theorem dJ5_appendNull_278bc_51 : decode cJ5_appendNull_278bc 51 = .ok (.aload_n 2, 1) := by decide +kernel
theorem dJ5_appendNull_278bc_52 : decode cJ5_appendNull_278bc 52 = .ok (.iload_n 1, 1) := by decide +kernel
theorem dJ5_appendNull_278bc_53 : decode cJ5_appendNull_278bc 53 = .ok (.iinc 1 1, 3) := by decide +kernel
theorem dJ5_appendNull_278bc_56 : decode cJ5_appendNull_278bc 56 = .ok (.bipush 108, 2) := by decide +kernel
theorem dJ5_appendNull_278bc_58 : decode cJ5_appendNull_278bc 58 = .ok (.bastore, 1) := by decide +kernel
theorem dJ5_appendNull_278bc_59 : decode cJ5_appendNull_278bc 59 = .ok (.goto 17, 3) := by decide +kernel
theorem dJ5_appendNull_278bc_62 : decode cJ5_appendNull_278bc 62 = .ok (.aload_n 2, 1) := by decide +kernel
theorem dJ5_appendNull_278bc_63 : decode cJ5_appendNull_278bc 63 = .ok (.iload_n 1, 1) := by decide +kernel
theorem dJ5_appendNull_278bc_64 : decode cJ5_appendNull_278bc 64 = .ok (.bipush 110, 2) := by decide +kernel
theorem dJ5_appendNull_278bc_66 : decode cJ5_appendNull_278bc 66 = .ok (.bipush 117, 2) := by decide +kernel
theorem dJ5_appendNull_278bc_68 : decode cJ5_appendNull_278bc 68 = .ok (.bipush 108, 2) := by decide +kernel
theorem dJ5_appendNull_278bc_70 : decode cJ5_appendNull_278bc 70 = .ok (.bipush 108, 2) := by decide +kernel
theorem dJ5_appendNull_278bc_72 : decode cJ5_appendNull_278bc 72 = .ok (.invokestatic 226, 3) := by decide +kernel
theorem dJ5_appendNull_278bc_75 : decode cJ5_appendNull_278bc 75 = .ok (.istore_n 1, 1) := by decide +kernel
theorem dJ5_appendNull_278bc_76 : decode cJ5_appendNull_278bc 76 = .ok (.aload_n 0, 1) := by decide +kernel
theorem dJ5_appendNull_278bc_77 : decode cJ5_appendNull_278bc 77 = .ok (.iload_n 1, 1) := by decide +kernel
theorem dJ5_appendNull_278bc_78 : decode cJ5_appendNull_278bc 78 = .ok (.putfield 79, 3) := by decide +kernel
theorem dJ5_appendNull_278bc_81 : decode cJ5_appendNull_278bc 81 = .ok (.aload_n 0, 1) := by decide +kernel
theorem dJ5_appendNull_278bc_82 : decode cJ5_appendNull_278bc 82 = .ok (.areturn, 1) := by decide +kernel
theorem dJ5_append_3fe6f_0 : decode cJ5_append_3fe6f 0 = .ok (.aload_n 0, 1) := by decide +kernel
theorem dJ5_append_3fe6f_1 : decode cJ5_append_3fe6f 1 = .ok (.aload_n 0, 1) := by decide +kernel
theorem dJ5_append_3fe6f_2 : decode cJ5_append_3fe6f 2 = .ok (.getfield 79, 3) := by decide +kernel
theorem dJ5_append_3fe6f_5 : decode cJ5_append_3fe6f 5 = .ok (.iconst 1, 1) := by decide +kernel
theorem dJ5_append_3fe6f_6 : decode cJ5_append_3fe6f 6 = .ok (.iadd, 1) := by decide +kernel
theorem dJ5_append_3fe6f_7 : decode cJ5_append_3fe6f 7 = .ok (.invokevirtual 100, 3) := by decide +kernel
theorem dJ5_append_3fe6f_10 : decode cJ5_append_3fe6f 10 = .ok (.aload_n 0, 1) := by decide +kernel
theorem dJ5_append_3fe6f_11 : decode cJ5_append_3fe6f 11 = .ok (.invokevirtual 83, 3) := by decide +kernel
theorem dJ5_append_3fe6f_14 : decode cJ5_append_3fe6f 14 = .ok (.ifCond .eq 31, 3) := by decide +kernel
theorem dJ5_append_3fe6f_17 : decode cJ5_append_3fe6f 17 = .ok (.iload_n 1, 1) := by decide +kernel
theorem dJ5_append_3fe6f_18 : decode cJ5_append_3fe6f 18 = .ok (.invokestatic 191, 3) := by decide +kernel
theorem dJ5_append_3fe6f_21 : decode cJ5_append_3fe6f 21 = .ok (.ifCond .eq 24, 3) := by decide +kernel
theorem dJ5_append_3fe6f_24 : decode cJ5_append_3fe6f 24 = .ok (.aload_n 0, 1) := by decide +kernel
theorem dJ5_append_3fe6f_25 : decode cJ5_append_3fe6f 25 = .ok (.getfield 15, 3) := by decide +kernel
theorem dJ5_append_3fe6f_28 : decode cJ5_append_3fe6f 28 = .ok (.aload_n 0, 1) := by decide +kernel
theorem dJ5_append_3fe6f_29 : decode cJ5_append_3fe6f 29 = .ok (.dup, 1) := by decide +kernel
theorem dJ5_append_3fe6f_30 : decode cJ5_append_3fe6f 30 = .ok (.getfield 79, 3) := by decide +kernel
theorem dJ5_append_3fe6f_33 : decode cJ5_append_3fe6f 33 = .ok (.dup_x1, 1) := by decide +kernel
theorem dJ5_append_3fe6f_34 : decode cJ5_append_3fe6f 34 = .ok (.iconst 1, 1) := by decide +kernel
theorem dJ5_append_3fe6f_35 : decode cJ5_append_3fe6f 35 = .ok (.iadd, 1) := by decide +kernel
theorem dJ5_append_3fe6f_36 : decode cJ5_append_3fe6f 36 = .ok (.putfield 79, 3) := by decide +kernel
theorem dJ5_append_3fe6f_39 : decode cJ5_append_3fe6f 39 = .ok (.iload_n 1, 1) := by decide +kernel
theorem dJ5_append_3fe6f_40 : decode cJ5_append_3fe6f 40 = .ok (.i2b, 1) := by decide +kernel
theorem dJ5_append_3fe6f_41 : decode cJ5_append_3fe6f 41 = .ok (.bastore, 1) := by decide +kernel
theorem dJ5_append_3fe6f_42 : decode cJ5_append_3fe6f 42 = .ok (.goto 33, 3) := by decide +kernel
theorem dJ5_append_3fe6f_45 : decode cJ5_append_3fe6f 45 = .ok (.aload_n 0, 1) := by decide +kernel
theorem dJ5_append_3fe6f_46 : decode cJ5_append_3fe6f 46 = .ok (.invokevirtual 83, 3) := by decide +kernel
theorem dJ5_append_3fe6f_49 : decode cJ5_append_3fe6f 49 = .ok (.ifCond .eq 7, 3) := by decide +kernel
theorem dJ5_append_3fe6f_52 : decode cJ5_append_3fe6f 52 = .ok (.aload_n 0, 1) := by decide +kernel
theorem dJ5_append_3fe6f_53 : decode cJ5_append_3fe6f 53 = .ok (.invokevirtual 195, 3) := by decide +kernel
theorem dJ5_append_3fe6f_56 : decode cJ5_append_3fe6f 56 = .ok (.aload_n 0, 1) := by decide +kernel
theorem dJ5_append_3fe6f_57 : decode cJ5_append_3fe6f 57 = .ok (.getfield 15, 3) := by decide +kernel
theorem dJ5_append_3fe6f_60 : decode cJ5_append_3fe6f 60 = .ok (.aload_n 0, 1) := by decide +kernel
theorem dJ5_append_3fe6f_61 : decode cJ5_append_3fe6f 61 = .ok (.dup, 1) := by decide +kernel
theorem dJ5_append_3fe6f_62 : decode cJ5_append_3fe6f 62 = .ok (.getfield 79, 3) := by decide +kernel
theorem dJ5_append_3fe6f_65 : decode cJ5_append_3fe6f 65 = .ok (.dup_x1, 1) := by decide +kernel
theorem dJ5_append_3fe6f_66 : decode cJ5_append_3fe6f 66 = .ok (.iconst 1, 1) := by decide +kernel
theorem dJ5_append_3fe6f_67 : decode cJ5_append_3fe6f 67 = .ok (.iadd, 1) := by decide +kernel
theorem dJ5_append_3fe6f_68 : decode cJ5_append_3fe6f 68 = .ok (.putfield 79, 3) := by decide +kernel
theorem dJ5_append_3fe6f_71 : decode cJ5_append_3fe6f 71 = .ok (.iload_n 1, 1) := by decide +kernel
theorem dJ5_append_3fe6f_72 : decode cJ5_append_3fe6f 72 = .ok (.invokestatic 197, 3) := by decide +kernel
theorem dJ5_append_3fe6f_75 : decode cJ5_append_3fe6f 75 = .ok (.aload_n 0, 1) := by decide +kernel
theorem dJ5_append_3fe6f_76 : decode cJ5_append_3fe6f 76 = .ok (.areturn, 1) := by decide +kernel
theorem dJ5_append_c97b9_0 : decode cJ5_append_c97b9 0 = .ok (.aload_n 0, 1) := by decide +kernel
theorem dJ5_append_c97b9_1 : decode cJ5_append_c97b9 1 = .ok (.getfield 79, 3) := by decide +kernel
theorem dJ5_append_c97b9_4 : decode cJ5_append_c97b9 4 = .ok (.istore_n 2, 1) := by decide +kernel
theorem dJ5_append_c97b9_5 : decode cJ5_append_c97b9 5 = .ok (.iload_n 2, 1) := by decide +kernel
theorem dJ5_append_c97b9_6 : decode cJ5_append_c97b9 6 = .ok (.iload_n 1, 1) := by decide +kernel
theorem dJ5_append_c97b9_7 : decode cJ5_append_c97b9 7 = .ok (.invokestatic 245, 3) := by decide +kernel
theorem dJ5_append_c97b9_10 : decode cJ5_append_c97b9 10 = .ok (.iadd, 1) := by decide +kernel
theorem dJ5_append_c97b9_11 : decode cJ5_append_c97b9 11 = .ok (.istore_n 3, 1) := by decide +kernel
theorem dJ5_append_c97b9_12 : decode cJ5_append_c97b9 12 = .ok (.aload_n 0, 1) := by decide +kernel
theorem dJ5_append_c97b9_13 : decode cJ5_append_c97b9 13 = .ok (.iload_n 3, 1) := by decide +kernel
theorem dJ5_append_c97b9_14 : decode cJ5_append_c97b9 14 = .ok (.invokevirtual 100, 3) := by decide +kernel
theorem dJ5_append_c97b9_17 : decode cJ5_append_c97b9 17 = .ok (.aload_n 0, 1) := by decide +kernel
theorem dJ5_append_c97b9_18 : decode cJ5_append_c97b9 18 = .ok (.invokevirtual 83, 3) := by decide +kernel
theorem dJ5_append_c97b9_21 : decode cJ5_append_c97b9 21 = .ok (.ifCond .eq 16, 3) := by decide +kernel
theorem dJ5_append_c97b9_24 : decode cJ5_append_c97b9 24 = .ok (.iload_n 1, 1) := by decide +kernel
theorem dJ5_append_c97b9_25 : decode cJ5_append_c97b9 25 = .ok (.iload_n 3, 1) := by decide +kernel
theorem dJ5_append_c97b9_26 : decode cJ5_append_c97b9 26 = .ok (.aload_n 0, 1) := by decide +kernel
theorem dJ5_append_c97b9_27 : decode cJ5_append_c97b9 27 = .ok (.getfield 15, 3) := by decide +kernel
theorem dJ5_append_c97b9_30 : decode cJ5_append_c97b9 30 = .ok (.invokestatic 248, 3) := by decide +kernel
theorem dJ5_append_c97b9_33 : decode cJ5_append_c97b9 33 = .ok (.pop, 1) := by decide +kernel
theorem dJ5_append_c97b9_34 : decode cJ5_append_c97b9 34 = .ok (.goto 14, 3) := by decide +kernel
theorem dJ5_append_c97b9_37 : decode cJ5_append_c97b9 37 = .ok (.iload_n 1, 1) := by decide +kernel
theorem dJ5_append_c97b9_38 : decode cJ5_append_c97b9 38 = .ok (.iload_n 2, 1) := by decide +kernel
theorem dJ5_append_c97b9_39 : decode cJ5_append_c97b9 39 = .ok (.iload_n 3, 1) := by decide +kernel
theorem dJ5_append_c97b9_40 : decode cJ5_append_c97b9 40 = .ok (.aload_n 0, 1) := by decide +kernel
theorem dJ5_append_c97b9_41 : decode cJ5_append_c97b9 41 = .ok (.getfield 15, 3) := by decide +kernel
theorem dJ5_append_c97b9_44 : decode cJ5_append_c97b9 44 = .ok (.invokestatic 251, 3) := by decide +kernel
theorem dJ5_append_c97b9_47 : decode cJ5_append_c97b9 47 = .ok (.pop, 1) := by decide +kernel
theorem dJ5_append_c97b9_48 : decode cJ5_append_c97b9 48 = .ok (.aload_n 0, 1) := by decide +kernel
theorem dJ5_append_c97b9_49 : decode cJ5_append_c97b9 49 = .ok (.iload_n 3, 1) := by decide +kernel
theorem dJ5_append_c97b9_50 : decode cJ5_append_c97b9 50 = .ok (.putfield 79, 3) := by decide +kernel
theorem dJ5_append_c97b9_53 : decode cJ5_append_c97b9 53 = .ok (.aload_n 0, 1) := by decide +kernel
theorem dJ5_append_c97b9_54 : decode cJ5_append_c97b9 54 = .ok (.areturn, 1) := by decide +kernel
theorem dJ5_isLatin1_aae02_0 : decode cJ5_isLatin1_aae02 0 = .ok (.getstatic 18, 3) := by decide +kernel
theorem dJ5_isLatin1_aae02_3 : decode cJ5_isLatin1_aae02 3 = .ok (.ifCond .eq 14, 3) := by decide +kernel
theorem dJ5_isLatin1_aae02_6 : decode cJ5_isLatin1_aae02 6 = .ok (.aload_n 0, 1) := by decide +kernel
theorem dJ5_isLatin1_aae02_7 : decode cJ5_isLatin1_aae02 7 = .ok (.getfield 22, 3) := by decide +kernel
theorem dJ5_isLatin1_aae02_10 : decode cJ5_isLatin1_aae02 10 = .ok (.ifCond .ne 7, 3) := by decide +kernel
theorem dJ5_isLatin1_aae02_13 : decode cJ5_isLatin1_aae02 13 = .ok (.iconst 1, 1) := by decide +kernel
theorem dJ5_isLatin1_aae02_14 : decode cJ5_isLatin1_aae02 14 = .ok (.goto 4, 3) := by decide +kernel
theorem dJ5_isLatin1_aae02_17 : decode cJ5_isLatin1_aae02 17 = .ok (.iconst 0, 1) := by decide +kernel
theorem dJ5_isLatin1_aae02_18 : decode cJ5_isLatin1_aae02 18 = .ok (.ireturn, 1) := by decide +kernel
theorem dJ5_inflateIfNeededFor_a7421_0 : decode cJ5_inflateIfNeededFor_a7421 0 = .ok (.getstatic 18, 3) := by decide +kernel
theorem dJ5_inflateIfNeededFor_a7421_3 : decode cJ5_inflateIfNeededFor_a7421 3 = .ok (.ifCond .eq 18, 3) := by decide +kernel
theorem dJ5_inflateIfNeededFor_a7421_6 : decode cJ5_inflateIfNeededFor_a7421 6 = .ok (.aload_n 0, 1) := by decide +kernel
theorem dJ5_inflateIfNeededFor_a7421_7 : decode cJ5_inflateIfNeededFor_a7421 7 = .ok (.getfield 22, 3) := by decide +kernel
theorem dJ5_inflateIfNeededFor_a7421_10 : decode cJ5_inflateIfNeededFor_a7421 10 = .ok (.aload_n 1, 1) := by decide +kernel
theorem dJ5_inflateIfNeededFor_a7421_11 : decode cJ5_inflateIfNeededFor_a7421 11 = .ok (.invokevirtual 40, 3) := by decide +kernel
theorem dJ5_inflateIfNeededFor_a7421_14 : decode cJ5_inflateIfNeededFor_a7421 14 = .ok (.if_icmp .eq 7, 3) := by decide +kernel
theorem dJ5_inflateIfNeededFor_a7421_17 : decode cJ5_inflateIfNeededFor_a7421 17 = .ok (.aload_n 0, 1) := by decide +kernel
theorem dJ5_inflateIfNeededFor_a7421_18 : decode cJ5_inflateIfNeededFor_a7421 18 = .ok (.invokevirtual 195, 3) := by decide +kernel
theorem dJ5_inflateIfNeededFor_a7421_21 : decode cJ5_inflateIfNeededFor_a7421 21 = .ok (.return_, 1) := by decide +kernel
theorem dJ5_putStringAt_47b60_0 : decode cJ5_putStringAt_47b60 0 = .ok (.aload_n 0, 1) := by decide +kernel
theorem dJ5_putStringAt_47b60_1 : decode cJ5_putStringAt_47b60 1 = .ok (.aload_n 2, 1) := by decide +kernel
theorem dJ5_putStringAt_47b60_2 : decode cJ5_putStringAt_47b60 2 = .ok (.invokevirtual 397, 3) := by decide +kernel
theorem dJ5_putStringAt_47b60_5 : decode cJ5_putStringAt_47b60 5 = .ok (.aload_n 2, 1) := by decide +kernel
theorem dJ5_putStringAt_47b60_6 : decode cJ5_putStringAt_47b60 6 = .ok (.aload_n 0, 1) := by decide +kernel
theorem dJ5_putStringAt_47b60_7 : decode cJ5_putStringAt_47b60 7 = .ok (.getfield 15, 3) := by decide +kernel
theorem dJ5_putStringAt_47b60_10 : decode cJ5_putStringAt_47b60 10 = .ok (.iload_n 1, 1) := by decide +kernel
theorem dJ5_putStringAt_47b60_11 : decode cJ5_putStringAt_47b60 11 = .ok (.aload_n 0, 1) := by decide +kernel
theorem dJ5_putStringAt_47b60_12 : decode cJ5_putStringAt_47b60 12 = .ok (.getfield 22, 3) := by decide +kernel
theorem dJ5_putStringAt_47b60_15 : decode cJ5_putStringAt_47b60 15 = .ok (.invokevirtual 399, 3) := by decide +kernel
theorem dJ5_putStringAt_47b60_18 : decode cJ5_putStringAt_47b60 18 = .ok (.return_, 1) := by decide +kernel
theorem dJ6_getChars_ba4f3_0 : decode cJ6_getChars_ba4f3 0 = .ok (.iload_n 1, 1) := by decide +kernel
theorem dJ6_getChars_ba4f3_1 : decode cJ6_getChars_ba4f3 1 = .ok (.istore 5, 2) := by decide +kernel
theorem dJ6_getChars_ba4f3_3 : decode cJ6_getChars_ba4f3 3 = .ok (.iload_n 0, 1) := by decide +kernel
theorem dJ6_getChars_ba4f3_4 : decode cJ6_getChars_ba4f3 4 = .ok (.ifCond .ge 7, 3) := by decide +kernel
theorem dJ6_getChars_ba4f3_7 : decode cJ6_getChars_ba4f3 7 = .ok (.iconst 1, 1) := by decide +kernel
theorem dJ6_getChars_ba4f3_8 : decode cJ6_getChars_ba4f3 8 = .ok (.goto 4, 3) := by decide +kernel
theorem dJ6_getChars_ba4f3_11 : decode cJ6_getChars_ba4f3 11 = .ok (.iconst 0, 1) := by decide +kernel
theorem dJ6_getChars_ba4f3_12 : decode cJ6_getChars_ba4f3 12 = .ok (.istore 6, 2) := by decide +kernel
theorem dJ6_getChars_ba4f3_14 : decode cJ6_getChars_ba4f3 14 = .ok (.iload 6, 2) := by decide +kernel
theorem dJ6_getChars_ba4f3_16 : decode cJ6_getChars_ba4f3 16 = .ok (.ifCond .ne 6, 3) := by decide +kernel
theorem dJ6_getChars_ba4f3_19 : decode cJ6_getChars_ba4f3 19 = .ok (.iload_n 0, 1) := by decide +kernel
theorem dJ6_getChars_ba4f3_20 : decode cJ6_getChars_ba4f3 20 = .ok (.ineg, 1) := by decide +kernel
theorem dJ6_getChars_ba4f3_21 : decode cJ6_getChars_ba4f3 21 = .ok (.istore_n 0, 1) := by decide +kernel
theorem dJ6_getChars_ba4f3_22 : decode cJ6_getChars_ba4f3 22 = .ok (.iload_n 0, 1) := by decide +kernel
theorem dJ6_getChars_ba4f3_23 : decode cJ6_getChars_ba4f3 23 = .ok (.bipush (-100), 2) := by decide +kernel
theorem dJ6_getChars_ba4f3_25 : decode cJ6_getChars_ba4f3 25 = .ok (.if_icmp .gt 47, 3) := by decide +kernel
theorem dJ6_getChars_ba4f3_28 : decode cJ6_getChars_ba4f3 28 = .ok (.iload_n 0, 1) := by decide +kernel
theorem dJ6_getChars_ba4f3_29 : decode cJ6_getChars_ba4f3 29 = .ok (.bipush 100, 2) := by decide +kernel
theorem dJ6_getChars_ba4f3_31 : decode cJ6_getChars_ba4f3 31 = .ok (.idiv, 1) := by decide +kernel
theorem dJ6_getChars_ba4f3_32 : decode cJ6_getChars_ba4f3 32 = .ok (.istore_n 3, 1) := by decide +kernel
theorem dJ6_getChars_ba4f3_33 : decode cJ6_getChars_ba4f3 33 = .ok (.iload_n 3, 1) := by decide +kernel
theorem dJ6_getChars_ba4f3_34 : decode cJ6_getChars_ba4f3 34 = .ok (.bipush 100, 2) := by decide +kernel
theorem dJ6_getChars_ba4f3_36 : decode cJ6_getChars_ba4f3 36 = .ok (.imul, 1) := by decide +kernel
theorem dJ6_getChars_ba4f3_37 : decode cJ6_getChars_ba4f3 37 = .ok (.iload_n 0, 1) := by decide +kernel
theorem dJ6_getChars_ba4f3_38 : decode cJ6_getChars_ba4f3 38 = .ok (.isub, 1) := by decide +kernel
theorem dJ6_getChars_ba4f3_39 : decode cJ6_getChars_ba4f3 39 = .ok (.istore 4, 2) := by decide +kernel
theorem dJ6_getChars_ba4f3_41 : decode cJ6_getChars_ba4f3 41 = .ok (.iload_n 3, 1) := by decide +kernel
theorem dJ6_getChars_ba4f3_42 : decode cJ6_getChars_ba4f3 42 = .ok (.istore_n 0, 1) := by decide +kernel
theorem dJ6_getChars_ba4f3_43 : decode cJ6_getChars_ba4f3 43 = .ok (.aload_n 2, 1) := by decide +kernel
theorem dJ6_getChars_ba4f3_44 : decode cJ6_getChars_ba4f3 44 = .ok (.iinc 5 (-1), 3) := by decide +kernel
theorem dJ6_getChars_ba4f3_47 : decode cJ6_getChars_ba4f3 47 = .ok (.iload 5, 2) := by decide +kernel
theorem dJ6_getChars_ba4f3_49 : decode cJ6_getChars_ba4f3 49 = .ok (.getstatic 83, 3) := by decide +kernel
theorem dJ6_getChars_ba4f3_52 : decode cJ6_getChars_ba4f3 52 = .ok (.iload 4, 2) := by decide +kernel
theorem dJ6_getChars_ba4f3_54 : decode cJ6_getChars_ba4f3 54 = .ok (.baload, 1) := by decide +kernel
theorem dJ6_getChars_ba4f3_55 : decode cJ6_getChars_ba4f3 55 = .ok (.bastore, 1) := by decide +kernel
theorem dJ6_getChars_ba4f3_56 : decode cJ6_getChars_ba4f3 56 = .ok (.aload_n 2, 1) := by decide +kernel
theorem dJ6_getChars_ba4f3_57 : decode cJ6_getChars_ba4f3 57 = .ok (.iinc 5 (-1), 3) := by decide +kernel
theorem dJ6_getChars_ba4f3_60 : decode cJ6_getChars_ba4f3 60 = .ok (.iload 5, 2) := by decide +kernel
theorem dJ6_getChars_ba4f3_62 : decode cJ6_getChars_ba4f3 62 = .ok (.getstatic 87, 3) := by decide +kernel
theorem dJ6_getChars_ba4f3_65 : decode cJ6_getChars_ba4f3 65 = .ok (.iload 4, 2) := by decide +kernel
theorem dJ6_getChars_ba4f3_67 : decode cJ6_getChars_ba4f3 67 = .ok (.baload, 1) := by decide +kernel
theorem dJ6_getChars_ba4f3_68 : decode cJ6_getChars_ba4f3 68 = .ok (.bastore, 1) := by decide +kernel
theorem dJ6_getChars_ba4f3_69 : decode cJ6_getChars_ba4f3 69 = .ok (.goto (-47), 3) := by decide +kernel
theorem dJ6_getChars_ba4f3_72 : decode cJ6_getChars_ba4f3 72 = .ok (.aload_n 2, 1) := by decide +kernel
theorem dJ6_getChars_ba4f3_73 : decode cJ6_getChars_ba4f3 73 = .ok (.iinc 5 (-1), 3) := by decide +kernel
theorem dJ6_getChars_ba4f3_76 : decode cJ6_getChars_ba4f3 76 = .ok (.iload 5, 2) := by decide +kernel
theorem dJ6_getChars_ba4f3_78 : decode cJ6_getChars_ba4f3 78 = .ok (.getstatic 83, 3) := by decide +kernel
theorem dJ6_getChars_ba4f3_81 : decode cJ6_getChars_ba4f3 81 = .ok (.iload_n 0, 1) := by decide +kernel
theorem dJ6_getChars_ba4f3_82 : decode cJ6_getChars_ba4f3 82 = .ok (.ineg, 1) := by decide +kernel
theorem dJ6_getChars_ba4f3_83 : decode cJ6_getChars_ba4f3 83 = .ok (.baload, 1) := by decide +kernel
theorem dJ6_getChars_ba4f3_84 : decode cJ6_getChars_ba4f3 84 = .ok (.bastore, 1) := by decide +kernel
theorem dJ6_getChars_ba4f3_85 : decode cJ6_getChars_ba4f3 85 = .ok (.iload_n 0, 1) := by decide +kernel
theorem dJ6_getChars_ba4f3_86 : decode cJ6_getChars_ba4f3 86 = .ok (.bipush (-9), 2) := by decide +kernel
theorem dJ6_getChars_ba4f3_88 : decode cJ6_getChars_ba4f3 88 = .ok (.if_icmp .ge 16, 3) := by decide +kernel
theorem dJ6_getChars_ba4f3_91 : decode cJ6_getChars_ba4f3 91 = .ok (.aload_n 2, 1) := by decide +kernel
theorem dJ6_getChars_ba4f3_92 : decode cJ6_getChars_ba4f3 92 = .ok (.iinc 5 (-1), 3) := by decide +kernel
theorem dJ6_getChars_ba4f3_95 : decode cJ6_getChars_ba4f3 95 = .ok (.iload 5, 2) := by decide +kernel
theorem dJ6_getChars_ba4f3_97 : decode cJ6_getChars_ba4f3 97 = .ok (.getstatic 87, 3) := by decide +kernel
theorem dJ6_getChars_ba4f3_100 : decode cJ6_getChars_ba4f3 100 = .ok (.iload_n 0, 1) := by decide +kernel
theorem dJ6_getChars_ba4f3_101 : decode cJ6_getChars_ba4f3 101 = .ok (.ineg, 1) := by decide +kernel
theorem dJ6_getChars_ba4f3_102 : decode cJ6_getChars_ba4f3 102 = .ok (.baload, 1) := by decide +kernel
theorem dJ6_getChars_ba4f3_103 : decode cJ6_getChars_ba4f3 103 = .ok (.bastore, 1) := by decide +kernel
theorem dJ6_getChars_ba4f3_104 : decode cJ6_getChars_ba4f3 104 = .ok (.iload 6, 2) := by decide +kernel
theorem dJ6_getChars_ba4f3_106 : decode cJ6_getChars_ba4f3 106 = .ok (.ifCond .eq 12, 3) := by decide +kernel
theorem dJ6_getChars_ba4f3_109 : decode cJ6_getChars_ba4f3 109 = .ok (.aload_n 2, 1) := by decide +kernel
theorem dJ6_getChars_ba4f3_110 : decode cJ6_getChars_ba4f3 110 = .ok (.iinc 5 (-1), 3) := by decide +kernel
theorem dJ6_getChars_ba4f3_113 : decode cJ6_getChars_ba4f3 113 = .ok (.iload 5, 2) := by decide +kernel
theorem dJ6_getChars_ba4f3_115 : decode cJ6_getChars_ba4f3 115 = .ok (.bipush 45, 2) := by decide +kernel
theorem dJ6_getChars_ba4f3_117 : decode cJ6_getChars_ba4f3 117 = .ok (.bastore, 1) := by decide +kernel
theorem dJ6_getChars_ba4f3_118 : decode cJ6_getChars_ba4f3 118 = .ok (.iload 5, 2) := by decide +kernel
theorem dJ6_getChars_ba4f3_120 : decode cJ6_getChars_ba4f3 120 = .ok (.ireturn, 1) := by decide +kernel
theorem dJ6_stringSize_0f7a4_0 : decode cJ6_stringSize_0f7a4 0 = .ok (.iconst 1, 1) := by decide +kernel
theorem dJ6_stringSize_0f7a4_1 : decode cJ6_stringSize_0f7a4 1 = .ok (.istore_n 1, 1) := by decide +kernel
theorem dJ6_stringSize_0f7a4_2 : decode cJ6_stringSize_0f7a4 2 = .ok (.iload_n 0, 1) := by decide +kernel
theorem dJ6_stringSize_0f7a4_3 : decode cJ6_stringSize_0f7a4 3 = .ok (.ifCond .lt 8, 3) := by decide +kernel
theorem dJ6_stringSize_0f7a4_6 : decode cJ6_stringSize_0f7a4 6 = .ok (.iconst 0, 1) := by decide +kernel
theorem dJ6_stringSize_0f7a4_7 : decode cJ6_stringSize_0f7a4 7 = .ok (.istore_n 1, 1) := by decide +kernel
theorem dJ6_stringSize_0f7a4_8 : decode cJ6_stringSize_0f7a4 8 = .ok (.iload_n 0, 1) := by decide +kernel
theorem dJ6_stringSize_0f7a4_9 : decode cJ6_stringSize_0f7a4 9 = .ok (.ineg, 1) := by decide +kernel
theorem dJ6_stringSize_0f7a4_10 : decode cJ6_stringSize_0f7a4 10 = .ok (.istore_n 0, 1) := by decide +kernel
theorem dJ6_stringSize_0f7a4_11 : decode cJ6_stringSize_0f7a4 11 = .ok (.bipush (-10), 2) := by decide +kernel
theorem dJ6_stringSize_0f7a4_13 : decode cJ6_stringSize_0f7a4 13 = .ok (.istore_n 2, 1) := by decide +kernel
theorem dJ6_stringSize_0f7a4_14 : decode cJ6_stringSize_0f7a4 14 = .ok (.iconst 1, 1) := by decide +kernel
theorem dJ6_stringSize_0f7a4_15 : decode cJ6_stringSize_0f7a4 15 = .ok (.istore_n 3, 1) := by decide +kernel
theorem dJ6_stringSize_0f7a4_16 : decode cJ6_stringSize_0f7a4 16 = .ok (.iload_n 3, 1) := by decide +kernel
theorem dJ6_stringSize_0f7a4_17 : decode cJ6_stringSize_0f7a4 17 = .ok (.bipush 10, 2) := by decide +kernel
theorem dJ6_stringSize_0f7a4_19 : decode cJ6_stringSize_0f7a4 19 = .ok (.if_icmp .ge 23, 3) := by decide +kernel
theorem dJ6_stringSize_0f7a4_22 : decode cJ6_stringSize_0f7a4 22 = .ok (.iload_n 0, 1) := by decide +kernel
theorem dJ6_stringSize_0f7a4_23 : decode cJ6_stringSize_0f7a4 23 = .ok (.iload_n 2, 1) := by decide +kernel
theorem dJ6_stringSize_0f7a4_24 : decode cJ6_stringSize_0f7a4 24 = .ok (.if_icmp .le 7, 3) := by decide +kernel
theorem dJ6_stringSize_0f7a4_27 : decode cJ6_stringSize_0f7a4 27 = .ok (.iload_n 3, 1) := by decide +kernel
theorem dJ6_stringSize_0f7a4_28 : decode cJ6_stringSize_0f7a4 28 = .ok (.iload_n 1, 1) := by decide +kernel
theorem dJ6_stringSize_0f7a4_29 : decode cJ6_stringSize_0f7a4 29 = .ok (.iadd, 1) := by decide +kernel
theorem dJ6_stringSize_0f7a4_30 : decode cJ6_stringSize_0f7a4 30 = .ok (.ireturn, 1) := by decide +kernel
theorem dJ6_stringSize_0f7a4_31 : decode cJ6_stringSize_0f7a4 31 = .ok (.bipush 10, 2) := by decide +kernel
theorem dJ6_stringSize_0f7a4_33 : decode cJ6_stringSize_0f7a4 33 = .ok (.iload_n 2, 1) := by decide +kernel
theorem dJ6_stringSize_0f7a4_34 : decode cJ6_stringSize_0f7a4 34 = .ok (.imul, 1) := by decide +kernel
theorem dJ6_stringSize_0f7a4_35 : decode cJ6_stringSize_0f7a4 35 = .ok (.istore_n 2, 1) := by decide +kernel
theorem dJ6_stringSize_0f7a4_36 : decode cJ6_stringSize_0f7a4 36 = .ok (.iinc 3 1, 3) := by decide +kernel
theorem dJ6_stringSize_0f7a4_39 : decode cJ6_stringSize_0f7a4 39 = .ok (.goto (-23), 3) := by decide +kernel
theorem dJ6_stringSize_0f7a4_42 : decode cJ6_stringSize_0f7a4 42 = .ok (.bipush 10, 2) := by decide +kernel
theorem dJ6_stringSize_0f7a4_44 : decode cJ6_stringSize_0f7a4 44 = .ok (.iload_n 1, 1) := by decide +kernel
theorem dJ6_stringSize_0f7a4_45 : decode cJ6_stringSize_0f7a4 45 = .ok (.iadd, 1) := by decide +kernel
theorem dJ6_stringSize_0f7a4_46 : decode cJ6_stringSize_0f7a4 46 = .ok (.ireturn, 1) := by decide +kernel
theorem dJ6_bitCount_0f7a4_0 : decode cJ6_bitCount_0f7a4 0 = .ok (.iload_n 0, 1) := by decide +kernel
theorem dJ6_bitCount_0f7a4_1 : decode cJ6_bitCount_0f7a4 1 = .ok (.iload_n 0, 1) := by decide +kernel
theorem dJ6_bitCount_0f7a4_2 : decode cJ6_bitCount_0f7a4 2 = .ok (.iconst 1, 1) := by decide +kernel
theorem dJ6_bitCount_0f7a4_3 : decode cJ6_bitCount_0f7a4 3 = .ok (.iushr, 1) := by decide +kernel
theorem dJ6_bitCount_0f7a4_4 : decode cJ6_bitCount_0f7a4 4 = .ok (.ldc_w 265, 3) := by decide +kernel
theorem dJ6_bitCount_0f7a4_7 : decode cJ6_bitCount_0f7a4 7 = .ok (.iand, 1) := by decide +kernel
theorem dJ6_bitCount_0f7a4_8 : decode cJ6_bitCount_0f7a4 8 = .ok (.isub, 1) := by decide +kernel
theorem dJ6_bitCount_0f7a4_9 : decode cJ6_bitCount_0f7a4 9 = .ok (.istore_n 0, 1) := by decide +kernel
theorem dJ6_bitCount_0f7a4_10 : decode cJ6_bitCount_0f7a4 10 = .ok (.iload_n 0, 1) := by decide +kernel
theorem dJ6_bitCount_0f7a4_11 : decode cJ6_bitCount_0f7a4 11 = .ok (.ldc_w 266, 3) := by decide +kernel
theorem dJ6_bitCount_0f7a4_14 : decode cJ6_bitCount_0f7a4 14 = .ok (.iand, 1) := by decide +kernel
theorem dJ6_bitCount_0f7a4_15 : decode cJ6_bitCount_0f7a4 15 = .ok (.iload_n 0, 1) := by decide +kernel
theorem dJ6_bitCount_0f7a4_16 : decode cJ6_bitCount_0f7a4 16 = .ok (.iconst 2, 1) := by decide +kernel
theorem dJ6_bitCount_0f7a4_17 : decode cJ6_bitCount_0f7a4 17 = .ok (.iushr, 1) := by decide +kernel
theorem dJ6_bitCount_0f7a4_18 : decode cJ6_bitCount_0f7a4 18 = .ok (.ldc_w 266, 3) := by decide +kernel
theorem dJ6_bitCount_0f7a4_21 : decode cJ6_bitCount_0f7a4 21 = .ok (.iand, 1) := by decide +kernel
theorem dJ6_bitCount_0f7a4_22 : decode cJ6_bitCount_0f7a4 22 = .ok (.iadd, 1) := by decide +kernel
theorem dJ6_bitCount_0f7a4_23 : decode cJ6_bitCount_0f7a4 23 = .ok (.istore_n 0, 1) := by decide +kernel
theorem dJ6_bitCount_0f7a4_24 : decode cJ6_bitCount_0f7a4 24 = .ok (.iload_n 0, 1) := by decide +kernel
theorem dJ6_bitCount_0f7a4_25 : decode cJ6_bitCount_0f7a4 25 = .ok (.iload_n 0, 1) := by decide +kernel
theorem dJ6_bitCount_0f7a4_26 : decode cJ6_bitCount_0f7a4 26 = .ok (.iconst 4, 1) := by decide +kernel
theorem dJ6_bitCount_0f7a4_27 : decode cJ6_bitCount_0f7a4 27 = .ok (.iushr, 1) := by decide +kernel
theorem dJ6_bitCount_0f7a4_28 : decode cJ6_bitCount_0f7a4 28 = .ok (.iadd, 1) := by decide +kernel
theorem dJ6_bitCount_0f7a4_29 : decode cJ6_bitCount_0f7a4 29 = .ok (.ldc_w 267, 3) := by decide +kernel
theorem dJ6_bitCount_0f7a4_32 : decode cJ6_bitCount_0f7a4 32 = .ok (.iand, 1) := by decide +kernel
theorem dJ6_bitCount_0f7a4_33 : decode cJ6_bitCount_0f7a4 33 = .ok (.istore_n 0, 1) := by decide +kernel
theorem dJ6_bitCount_0f7a4_34 : decode cJ6_bitCount_0f7a4 34 = .ok (.iload_n 0, 1) := by decide +kernel
theorem dJ6_bitCount_0f7a4_35 : decode cJ6_bitCount_0f7a4 35 = .ok (.iload_n 0, 1) := by decide +kernel
theorem dJ6_bitCount_0f7a4_36 : decode cJ6_bitCount_0f7a4 36 = .ok (.bipush 8, 2) := by decide +kernel
theorem dJ6_bitCount_0f7a4_38 : decode cJ6_bitCount_0f7a4 38 = .ok (.iushr, 1) := by decide +kernel
theorem dJ6_bitCount_0f7a4_39 : decode cJ6_bitCount_0f7a4 39 = .ok (.iadd, 1) := by decide +kernel
theorem dJ6_bitCount_0f7a4_40 : decode cJ6_bitCount_0f7a4 40 = .ok (.istore_n 0, 1) := by decide +kernel
theorem dJ6_bitCount_0f7a4_41 : decode cJ6_bitCount_0f7a4 41 = .ok (.iload_n 0, 1) := by decide +kernel
theorem dJ6_bitCount_0f7a4_42 : decode cJ6_bitCount_0f7a4 42 = .ok (.iload_n 0, 1) := by decide +kernel
theorem dJ6_bitCount_0f7a4_43 : decode cJ6_bitCount_0f7a4 43 = .ok (.bipush 16, 2) := by decide +kernel
theorem dJ6_bitCount_0f7a4_45 : decode cJ6_bitCount_0f7a4 45 = .ok (.iushr, 1) := by decide +kernel
theorem dJ6_bitCount_0f7a4_46 : decode cJ6_bitCount_0f7a4 46 = .ok (.iadd, 1) := by decide +kernel
theorem dJ6_bitCount_0f7a4_47 : decode cJ6_bitCount_0f7a4 47 = .ok (.istore_n 0, 1) := by decide +kernel
theorem dJ6_bitCount_0f7a4_48 : decode cJ6_bitCount_0f7a4 48 = .ok (.iload_n 0, 1) := by decide +kernel
theorem dJ6_bitCount_0f7a4_49 : decode cJ6_bitCount_0f7a4 49 = .ok (.bipush 63, 2) := by decide +kernel
theorem dJ6_bitCount_0f7a4_51 : decode cJ6_bitCount_0f7a4 51 = .ok (.iand, 1) := by decide +kernel
theorem dJ6_bitCount_0f7a4_52 : decode cJ6_bitCount_0f7a4 52 = .ok (.ireturn, 1) := by decide +kernel
theorem dJ9_floorMod_7cf53_0 : decode cJ9_floorMod_7cf53 0 = .ok (.iload_n 0, 1) := by decide +kernel
theorem dJ9_floorMod_7cf53_1 : decode cJ9_floorMod_7cf53 1 = .ok (.iload_n 1, 1) := by decide +kernel
theorem dJ9_floorMod_7cf53_2 : decode cJ9_floorMod_7cf53 2 = .ok (.irem, 1) := by decide +kernel
theorem dJ9_floorMod_7cf53_3 : decode cJ9_floorMod_7cf53 3 = .ok (.istore_n 2, 1) := by decide +kernel
theorem dJ9_floorMod_7cf53_4 : decode cJ9_floorMod_7cf53 4 = .ok (.iload_n 0, 1) := by decide +kernel
theorem dJ9_floorMod_7cf53_5 : decode cJ9_floorMod_7cf53 5 = .ok (.iload_n 1, 1) := by decide +kernel
theorem dJ9_floorMod_7cf53_6 : decode cJ9_floorMod_7cf53 6 = .ok (.ixor, 1) := by decide +kernel
theorem dJ9_floorMod_7cf53_7 : decode cJ9_floorMod_7cf53 7 = .ok (.ifCond .ge 11, 3) := by decide +kernel
theorem dJ9_floorMod_7cf53_10 : decode cJ9_floorMod_7cf53 10 = .ok (.iload_n 2, 1) := by decide +kernel
theorem dJ9_floorMod_7cf53_11 : decode cJ9_floorMod_7cf53 11 = .ok (.ifCond .eq 7, 3) := by decide +kernel
theorem dJ9_floorMod_7cf53_14 : decode cJ9_floorMod_7cf53 14 = .ok (.iload_n 2, 1) := by decide +kernel
theorem dJ9_floorMod_7cf53_15 : decode cJ9_floorMod_7cf53 15 = .ok (.iload_n 1, 1) := by decide +kernel
theorem dJ9_floorMod_7cf53_16 : decode cJ9_floorMod_7cf53 16 = .ok (.iadd, 1) := by decide +kernel
theorem dJ9_floorMod_7cf53_17 : decode cJ9_floorMod_7cf53 17 = .ok (.ireturn, 1) := by decide +kernel
theorem dJ9_floorMod_7cf53_18 : decode cJ9_floorMod_7cf53 18 = .ok (.iload_n 2, 1) := by decide +kernel
theorem dJ9_floorMod_7cf53_19 : decode cJ9_floorMod_7cf53 19 = .ok (.ireturn, 1) := by decide +kernel
theorem dJ9_max_7cf53_0 : decode cJ9_max_7cf53 0 = .ok (.iload_n 0, 1) := by decide +kernel
theorem dJ9_max_7cf53_1 : decode cJ9_max_7cf53 1 = .ok (.iload_n 1, 1) := by decide +kernel
theorem dJ9_max_7cf53_2 : decode cJ9_max_7cf53 2 = .ok (.if_icmp .lt 7, 3) := by decide +kernel
theorem dJ9_max_7cf53_5 : decode cJ9_max_7cf53 5 = .ok (.iload_n 0, 1) := by decide +kernel
theorem dJ9_max_7cf53_6 : decode cJ9_max_7cf53 6 = .ok (.goto 4, 3) := by decide +kernel
theorem dJ9_max_7cf53_9 : decode cJ9_max_7cf53 9 = .ok (.iload_n 1, 1) := by decide +kernel
theorem dJ9_max_7cf53_10 : decode cJ9_max_7cf53 10 = .ok (.ireturn, 1) := by decide +kernel
theorem dJ9_min_7cf53_0 : decode cJ9_min_7cf53 0 = .ok (.iload_n 0, 1) := by decide +kernel
theorem dJ9_min_7cf53_1 : decode cJ9_min_7cf53 1 = .ok (.iload_n 1, 1) := by decide +kernel
theorem dJ9_min_7cf53_2 : decode cJ9_min_7cf53 2 = .ok (.if_icmp .gt 7, 3) := by decide +kernel
theorem dJ9_min_7cf53_5 : decode cJ9_min_7cf53 5 = .ok (.iload_n 0, 1) := by decide +kernel
theorem dJ9_min_7cf53_6 : decode cJ9_min_7cf53 6 = .ok (.goto 4, 3) := by decide +kernel
theorem dJ9_min_7cf53_9 : decode cJ9_min_7cf53 9 = .ok (.iload_n 1, 1) := by decide +kernel
theorem dJ9_min_7cf53_10 : decode cJ9_min_7cf53 10 = .ok (.ireturn, 1) := by decide +kernel
theorem dJ0_length_8abf5_0 : decode cJ0_length_8abf5 0 = .ok (.aload_n 0, 1) := by decide +kernel
theorem dJ0_length_8abf5_1 : decode cJ0_length_8abf5 1 = .ok (.getfield 9, 3) := by decide +kernel
theorem dJ0_length_8abf5_4 : decode cJ0_length_8abf5 4 = .ok (.arraylength, 1) := by decide +kernel
theorem dJ0_length_8abf5_5 : decode cJ0_length_8abf5 5 = .ok (.aload_n 0, 1) := by decide +kernel
theorem dJ0_length_8abf5_6 : decode cJ0_length_8abf5 6 = .ok (.invokevirtual 335, 3) := by decide +kernel
theorem dJ0_length_8abf5_9 : decode cJ0_length_8abf5 9 = .ok (.ishr, 1) := by decide +kernel
theorem dJ0_length_8abf5_10 : decode cJ0_length_8abf5 10 = .ok (.ireturn, 1) := by decide +kernel
theorem dJ0_charAt_5068e_0 : decode cJ0_charAt_5068e 0 = .ok (.aload_n 0, 1) := by decide +kernel
theorem dJ0_charAt_5068e_1 : decode cJ0_charAt_5068e 1 = .ok (.invokevirtual 492, 3) := by decide +kernel
theorem dJ0_charAt_5068e_4 : decode cJ0_charAt_5068e 4 = .ok (.ifCond .eq 12, 3) := by decide +kernel
theorem dJ0_charAt_5068e_7 : decode cJ0_charAt_5068e 7 = .ok (.aload_n 0, 1) := by decide +kernel
theorem dJ0_charAt_5068e_8 : decode cJ0_charAt_5068e 8 = .ok (.getfield 9, 3) := by decide +kernel
theorem dJ0_charAt_5068e_11 : decode cJ0_charAt_5068e 11 = .ok (.iload_n 1, 1) := by decide +kernel
theorem dJ0_charAt_5068e_12 : decode cJ0_charAt_5068e 12 = .ok (.invokestatic 495, 3) := by decide +kernel
theorem dJ0_charAt_5068e_15 : decode cJ0_charAt_5068e 15 = .ok (.ireturn, 1) := by decide +kernel
theorem dJ0_charAt_5068e_16 : decode cJ0_charAt_5068e 16 = .ok (.aload_n 0, 1) := by decide +kernel
theorem dJ0_charAt_5068e_17 : decode cJ0_charAt_5068e 17 = .ok (.getfield 9, 3) := by decide +kernel
theorem dJ0_charAt_5068e_20 : decode cJ0_charAt_5068e 20 = .ok (.iload_n 1, 1) := by decide +kernel
theorem dJ0_charAt_5068e_21 : decode cJ0_charAt_5068e 21 = .ok (.invokestatic 498, 3) := by decide +kernel
theorem dJ0_charAt_5068e_24 : decode cJ0_charAt_5068e 24 = .ok (.ireturn, 1) := by decide +kernel
theorem dJ0_getBytes_840e7_0 : decode cJ0_getBytes_840e7 0 = .ok (.aload_n 0, 1) := by decide +kernel
theorem dJ0_getBytes_840e7_1 : decode cJ0_getBytes_840e7 1 = .ok (.invokevirtual 335, 3) := by decide +kernel
theorem dJ0_getBytes_840e7_4 : decode cJ0_getBytes_840e7 4 = .ok (.iload_n 3, 1) := by decide +kernel
theorem dJ0_getBytes_840e7_5 : decode cJ0_getBytes_840e7 5 = .ok (.if_icmp .ne 23, 3) := by decide +kernel
theorem dJ0_getBytes_840e7_8 : decode cJ0_getBytes_840e7 8 = .ok (.aload_n 0, 1) := by decide +kernel
theorem dJ0_getBytes_840e7_9 : decode cJ0_getBytes_840e7 9 = .ok (.getfield 9, 3) := by decide +kernel
theorem dJ0_getBytes_840e7_12 : decode cJ0_getBytes_840e7 12 = .ok (.iconst 0, 1) := by decide +kernel
theorem dJ0_getBytes_840e7_13 : decode cJ0_getBytes_840e7 13 = .ok (.aload_n 1, 1) := by decide +kernel
theorem dJ0_getBytes_840e7_14 : decode cJ0_getBytes_840e7 14 = .ok (.iload_n 2, 1) := by decide +kernel
theorem dJ0_getBytes_840e7_15 : decode cJ0_getBytes_840e7 15 = .ok (.iload_n 3, 1) := by decide +kernel
theorem dJ0_getBytes_840e7_16 : decode cJ0_getBytes_840e7 16 = .ok (.ishl, 1) := by decide +kernel
theorem dJ0_getBytes_840e7_17 : decode cJ0_getBytes_840e7 17 = .ok (.aload_n 0, 1) := by decide +kernel
theorem dJ0_getBytes_840e7_18 : decode cJ0_getBytes_840e7 18 = .ok (.getfield 9, 3) := by decide +kernel
theorem dJ0_getBytes_840e7_21 : decode cJ0_getBytes_840e7 21 = .ok (.arraylength, 1) := by decide +kernel
theorem dJ0_getBytes_840e7_22 : decode cJ0_getBytes_840e7 22 = .ok (.invokestatic 212, 3) := by decide +kernel
theorem dJ0_getBytes_840e7_25 : decode cJ0_getBytes_840e7 25 = .ok (.goto 18, 3) := by decide +kernel
theorem dJ0_getBytes_840e7_28 : decode cJ0_getBytes_840e7 28 = .ok (.aload_n 0, 1) := by decide +kernel
theorem dJ0_getBytes_840e7_29 : decode cJ0_getBytes_840e7 29 = .ok (.getfield 9, 3) := by decide +kernel
theorem dJ0_getBytes_840e7_32 : decode cJ0_getBytes_840e7 32 = .ok (.iconst 0, 1) := by decide +kernel
theorem dJ0_getBytes_840e7_33 : decode cJ0_getBytes_840e7 33 = .ok (.aload_n 1, 1) := by decide +kernel
theorem dJ0_getBytes_840e7_34 : decode cJ0_getBytes_840e7 34 = .ok (.iload_n 2, 1) := by decide +kernel
theorem dJ0_getBytes_840e7_35 : decode cJ0_getBytes_840e7 35 = .ok (.aload_n 0, 1) := by decide +kernel
theorem dJ0_getBytes_840e7_36 : decode cJ0_getBytes_840e7 36 = .ok (.getfield 9, 3) := by decide +kernel
theorem dJ0_getBytes_840e7_39 : decode cJ0_getBytes_840e7 39 = .ok (.arraylength, 1) := by decide +kernel
theorem dJ0_getBytes_840e7_40 : decode cJ0_getBytes_840e7 40 = .ok (.invokestatic 106, 3) := by decide +kernel
theorem dJ0_getBytes_840e7_43 : decode cJ0_getBytes_840e7 43 = .ok (.return_, 1) := by decide +kernel
theorem dJ0_coder_7d493_0 : decode cJ0_coder_7d493 0 = .ok (.getstatic 38, 3) := by decide +kernel
theorem dJ0_coder_7d493_3 : decode cJ0_coder_7d493 3 = .ok (.ifCond .eq 10, 3) := by decide +kernel
theorem dJ0_coder_7d493_6 : decode cJ0_coder_7d493 6 = .ok (.aload_n 0, 1) := by decide +kernel
theorem dJ0_coder_7d493_7 : decode cJ0_coder_7d493 7 = .ok (.getfield 15, 3) := by decide +kernel
theorem dJ0_coder_7d493_10 : decode cJ0_coder_7d493 10 = .ok (.goto 4, 3) := by decide +kernel
theorem dJ0_coder_7d493_13 : decode cJ0_coder_7d493 13 = .ok (.iconst 1, 1) := by decide +kernel
theorem dJ0_coder_7d493_14 : decode cJ0_coder_7d493 14 = .ok (.ireturn, 1) := by decide +kernel
theorem dJ0_isLatin1_aae02_0 : decode cJ0_isLatin1_aae02 0 = .ok (.getstatic 38, 3) := by decide +kernel
theorem dJ0_isLatin1_aae02_3 : decode cJ0_isLatin1_aae02 3 = .ok (.ifCond .eq 14, 3) := by decide +kernel
theorem dJ0_isLatin1_aae02_6 : decode cJ0_isLatin1_aae02 6 = .ok (.aload_n 0, 1) := by decide +kernel
theorem dJ0_isLatin1_aae02_7 : decode cJ0_isLatin1_aae02 7 = .ok (.getfield 15, 3) := by decide +kernel
theorem dJ0_isLatin1_aae02_10 : decode cJ0_isLatin1_aae02 10 = .ok (.ifCond .ne 7, 3) := by decide +kernel
theorem dJ0_isLatin1_aae02_13 : decode cJ0_isLatin1_aae02 13 = .ok (.iconst 1, 1) := by decide +kernel
theorem dJ0_isLatin1_aae02_14 : decode cJ0_isLatin1_aae02 14 = .ok (.goto 4, 3) := by decide +kernel
theorem dJ0_isLatin1_aae02_17 : decode cJ0_isLatin1_aae02 17 = .ok (.iconst 0, 1) := by decide +kernel
theorem dJ0_isLatin1_aae02_18 : decode cJ0_isLatin1_aae02 18 = .ok (.ireturn, 1) := by decide +kernel
theorem dJ0_checkIndex_df160_0 : decode cJ0_checkIndex_df160 0 = .ok (.iload_n 0, 1) := by decide +kernel
theorem dJ0_checkIndex_df160_1 : decode cJ0_checkIndex_df160 1 = .ok (.iload_n 1, 1) := by decide +kernel
theorem dJ0_checkIndex_df160_2 : decode cJ0_checkIndex_df160 2 = .ok (.getstatic 1053, 3) := by decide +kernel
theorem dJ0_checkIndex_df160_5 : decode cJ0_checkIndex_df160 5 = .ok (.invokestatic 1059, 3) := by decide +kernel
theorem dJ0_checkIndex_df160_8 : decode cJ0_checkIndex_df160 8 = .ok (.pop, 1) := by decide +kernel
theorem dJ0_checkIndex_df160_9 : decode cJ0_checkIndex_df160 9 = .ok (.return_, 1) := by decide +kernel
theorem dJ0_checkBoundsOffCount_cabcc_0 : decode cJ0_checkBoundsOffCount_cabcc 0 = .ok (.iload_n 0, 1) := by decide +kernel
theorem dJ0_checkBoundsOffCount_cabcc_1 : decode cJ0_checkBoundsOffCount_cabcc 1 = .ok (.iload_n 1, 1) := by decide +kernel
theorem dJ0_checkBoundsOffCount_cabcc_2 : decode cJ0_checkBoundsOffCount_cabcc 2 = .ok (.iload_n 2, 1) := by decide +kernel
theorem dJ0_checkBoundsOffCount_cabcc_3 : decode cJ0_checkBoundsOffCount_cabcc 3 = .ok (.getstatic 1053, 3) := by decide +kernel
theorem dJ0_checkBoundsOffCount_cabcc_6 : decode cJ0_checkBoundsOffCount_cabcc 6 = .ok (.invokestatic 1065, 3) := by decide +kernel
theorem dJ0_checkBoundsOffCount_cabcc_9 : decode cJ0_checkBoundsOffCount_cabcc 9 = .ok (.ireturn, 1) := by decide +kernel
theorem dJ0_checkBoundsBeginEnd_23922_0 : decode cJ0_checkBoundsBeginEnd_23922 0 = .ok (.iload_n 0, 1) := by decide +kernel
theorem dJ0_checkBoundsBeginEnd_23922_1 : decode cJ0_checkBoundsBeginEnd_23922 1 = .ok (.iload_n 1, 1) := by decide +kernel
theorem dJ0_checkBoundsBeginEnd_23922_2 : decode cJ0_checkBoundsBeginEnd_23922 2 = .ok (.iload_n 2, 1) := by decide +kernel
theorem dJ0_checkBoundsBeginEnd_23922_3 : decode cJ0_checkBoundsBeginEnd_23922 3 = .ok (.getstatic 1053, 3) := by decide +kernel
theorem dJ0_checkBoundsBeginEnd_23922_6 : decode cJ0_checkBoundsBeginEnd_23922 6 = .ok (.invokestatic 1062, 3) := by decide +kernel
theorem dJ0_checkBoundsBeginEnd_23922_9 : decode cJ0_checkBoundsBeginEnd_23922 9 = .ok (.pop, 1) := by decide +kernel
theorem dJ0_checkBoundsBeginEnd_23922_10 : decode cJ0_checkBoundsBeginEnd_23922 10 = .ok (.return_, 1) := by decide +kernel
theorem dJ4_init_a7421_0 : decode cJ4_init_a7421 0 = .ok (.aload_n 0, 1) := by decide +kernel
theorem dJ4_init_a7421_1 : decode cJ4_init_a7421 1 = .ok (.aload_n 1, 1) := by decide +kernel
theorem dJ4_init_a7421_2 : decode cJ4_init_a7421 2 = .ok (.invokespecial 7, 3) := by decide +kernel
theorem dJ4_init_a7421_5 : decode cJ4_init_a7421 5 = .ok (.return_, 1) := by decide +kernel
theorem dJ4_append_15ec4_0 : decode cJ4_append_15ec4 0 = .ok (.aload_n 0, 1) := by decide +kernel
theorem dJ4_append_15ec4_1 : decode cJ4_append_15ec4 1 = .ok (.aload_n 1, 1) := by decide +kernel
theorem dJ4_append_15ec4_2 : decode cJ4_append_15ec4 2 = .ok (.invokespecial 29, 3) := by decide +kernel
theorem dJ4_append_15ec4_5 : decode cJ4_append_15ec4 5 = .ok (.pop, 1) := by decide +kernel
theorem dJ4_append_15ec4_6 : decode cJ4_append_15ec4 6 = .ok (.aload_n 0, 1) := by decide +kernel
theorem dJ4_append_15ec4_7 : decode cJ4_append_15ec4 7 = .ok (.areturn, 1) := by decide +kernel
theorem dJ4_append_cf468_0 : decode cJ4_append_cf468 0 = .ok (.aload_n 0, 1) := by decide +kernel
theorem dJ4_append_cf468_1 : decode cJ4_append_cf468 1 = .ok (.iload_n 1, 1) := by decide +kernel
theorem dJ4_append_cf468_2 : decode cJ4_append_cf468 2 = .ok (.invokespecial 50, 3) := by decide +kernel
theorem dJ4_append_cf468_5 : decode cJ4_append_cf468 5 = .ok (.pop, 1) := by decide +kernel
theorem dJ4_append_cf468_6 : decode cJ4_append_cf468 6 = .ok (.aload_n 0, 1) := by decide +kernel
theorem dJ4_append_cf468_7 : decode cJ4_append_cf468 7 = .ok (.areturn, 1) := by decide +kernel
theorem dJ4_append_bf812_0 : decode cJ4_append_bf812 0 = .ok (.aload_n 0, 1) := by decide +kernel
theorem dJ4_append_bf812_1 : decode cJ4_append_bf812 1 = .ok (.iload_n 1, 1) := by decide +kernel
theorem dJ4_append_bf812_2 : decode cJ4_append_bf812 2 = .ok (.invokespecial 53, 3) := by decide +kernel
theorem dJ4_append_bf812_5 : decode cJ4_append_bf812 5 = .ok (.pop, 1) := by decide +kernel
theorem dJ4_append_bf812_6 : decode cJ4_append_bf812 6 = .ok (.aload_n 0, 1) := by decide +kernel
theorem dJ4_append_bf812_7 : decode cJ4_append_bf812 7 = .ok (.areturn, 1) := by decide +kernel
theorem dJ4_append_cf1ce_0 : decode cJ4_append_cf1ce 0 = .ok (.aload_n 0, 1) := by decide +kernel
theorem dJ4_append_cf1ce_1 : decode cJ4_append_cf1ce 1 = .ok (.aload_n 1, 1) := by decide +kernel
theorem dJ4_append_cf1ce_2 : decode cJ4_append_cf1ce 2 = .ok (.invokevirtual 23, 3) := by decide +kernel
theorem dJ4_append_cf1ce_5 : decode cJ4_append_cf1ce 5 = .ok (.areturn, 1) := by decide +kernel
theorem dJ4_charAt_5068e_0 : decode cJ4_charAt_5068e 0 = .ok (.aload_n 0, 1) := by decide +kernel
theorem dJ4_charAt_5068e_1 : decode cJ4_charAt_5068e 1 = .ok (.iload_n 1, 1) := by decide +kernel
theorem dJ4_charAt_5068e_2 : decode cJ4_charAt_5068e 2 = .ok (.invokespecial 329, 3) := by decide +kernel
theorem dJ4_charAt_5068e_5 : decode cJ4_charAt_5068e 5 = .ok (.ireturn, 1) := by decide +kernel
theorem dJ4_length_8abf5_0 : decode cJ4_length_8abf5 0 = .ok (.aload_n 0, 1) := by decide +kernel
theorem dJ4_length_8abf5_1 : decode cJ4_length_8abf5 1 = .ok (.invokespecial 343, 3) := by decide +kernel
theorem dJ4_length_8abf5_4 : decode cJ4_length_8abf5 4 = .ok (.ireturn, 1) := by decide +kernel
theorem dJ1_charAt_3b067_0 : decode cJ1_charAt_3b067 0 = .ok (.iload_n 1, 1) := by decide +kernel
theorem dJ1_charAt_3b067_1 : decode cJ1_charAt_3b067 1 = .ok (.aload_n 0, 1) := by decide +kernel
theorem dJ1_charAt_3b067_2 : decode cJ1_charAt_3b067 2 = .ok (.arraylength, 1) := by decide +kernel
theorem dJ1_charAt_3b067_3 : decode cJ1_charAt_3b067 3 = .ok (.invokestatic 9, 3) := by decide +kernel
theorem dJ1_charAt_3b067_6 : decode cJ1_charAt_3b067 6 = .ok (.aload_n 0, 1) := by decide +kernel
theorem dJ1_charAt_3b067_7 : decode cJ1_charAt_3b067 7 = .ok (.iload_n 1, 1) := by decide +kernel
theorem dJ1_charAt_3b067_8 : decode cJ1_charAt_3b067 8 = .ok (.baload, 1) := by decide +kernel
theorem dJ1_charAt_3b067_9 : decode cJ1_charAt_3b067 9 = .ok (.sipush 255, 3) := by decide +kernel
theorem dJ1_charAt_3b067_12 : decode cJ1_charAt_3b067 12 = .ok (.iand, 1) := by decide +kernel
theorem dJ1_charAt_3b067_13 : decode cJ1_charAt_3b067 13 = .ok (.i2c, 1) := by decide +kernel
theorem dJ1_charAt_3b067_14 : decode cJ1_charAt_3b067 14 = .ok (.ireturn, 1) := by decide +kernel
theorem dJ1_canEncode_fc78d_0 : decode cJ1_canEncode_fc78d 0 = .ok (.iload_n 0, 1) := by decide +kernel
theorem dJ1_canEncode_fc78d_1 : decode cJ1_canEncode_fc78d 1 = .ok (.sipush 255, 3) := by decide +kernel
theorem dJ1_canEncode_fc78d_4 : decode cJ1_canEncode_fc78d 4 = .ok (.if_icmp .gt 7, 3) := by decide +kernel
theorem dJ1_canEncode_fc78d_7 : decode cJ1_canEncode_fc78d 7 = .ok (.iconst 1, 1) := by decide +kernel
theorem dJ1_canEncode_fc78d_8 : decode cJ1_canEncode_fc78d 8 = .ok (.goto 4, 3) := by decide +kernel
theorem dJ1_canEncode_fc78d_11 : decode cJ1_canEncode_fc78d 11 = .ok (.iconst 0, 1) := by decide +kernel
theorem dJ1_canEncode_fc78d_12 : decode cJ1_canEncode_fc78d 12 = .ok (.ireturn, 1) := by decide +kernel
theorem dJ1_inflate_0e8fd_0 : decode cJ1_inflate_0e8fd 0 = .ok (.aload_n 0, 1) := by decide +kernel
theorem dJ1_inflate_0e8fd_1 : decode cJ1_inflate_0e8fd 1 = .ok (.iload_n 1, 1) := by decide +kernel
theorem dJ1_inflate_0e8fd_2 : decode cJ1_inflate_0e8fd 2 = .ok (.aload_n 2, 1) := by decide +kernel
theorem dJ1_inflate_0e8fd_3 : decode cJ1_inflate_0e8fd 3 = .ok (.iload_n 3, 1) := by decide +kernel
theorem dJ1_inflate_0e8fd_4 : decode cJ1_inflate_0e8fd 4 = .ok (.iload 4, 2) := by decide +kernel
theorem dJ1_inflate_0e8fd_6 : decode cJ1_inflate_0e8fd 6 = .ok (.invokestatic 240, 3) := by decide +kernel
theorem dJ1_inflate_0e8fd_9 : decode cJ1_inflate_0e8fd 9 = .ok (.return_, 1) := by decide +kernel
theorem dJ2_newBytesFor_77867_0 : decode cJ2_newBytesFor_77867 0 = .ok (.iload_n 0, 1) := by decide +kernel
theorem dJ2_newBytesFor_77867_1 : decode cJ2_newBytesFor_77867 1 = .ok (.invokestatic 11, 3) := by decide +kernel
theorem dJ2_newBytesFor_77867_4 : decode cJ2_newBytesFor_77867 4 = .ok (.newarray .byte, 2) := by decide +kernel
theorem dJ2_newBytesFor_77867_6 : decode cJ2_newBytesFor_77867 6 = .ok (.areturn, 1) := by decide +kernel
theorem dJ2_newBytesLength_0f7a4_0 : decode cJ2_newBytesLength_0f7a4 0 = .ok (.iload_n 0, 1) := by decide +kernel
theorem dJ2_newBytesLength_0f7a4_1 : decode cJ2_newBytesLength_0f7a4 1 = .ok (.ifCond .ge 11, 3) := by decide +kernel
theorem dJ2_newBytesLength_0f7a4_4 : decode cJ2_newBytesLength_0f7a4 4 = .ok (.new 17, 3) := by decide +kernel
theorem dJ2_newBytesLength_0f7a4_7 : decode cJ2_newBytesLength_0f7a4 7 = .ok (.dup, 1) := by decide +kernel
theorem dJ2_newBytesLength_0f7a4_8 : decode cJ2_newBytesLength_0f7a4 8 = .ok (.invokespecial 19, 3) := by decide +kernel
theorem dJ2_newBytesLength_0f7a4_11 : decode cJ2_newBytesLength_0f7a4 11 = .ok (.athrow, 1) := by decide +kernel
theorem dJ2_newBytesLength_0f7a4_12 : decode cJ2_newBytesLength_0f7a4 12 = .ok (.iload_n 0, 1) := by decide +kernel
theorem dJ2_newBytesLength_0f7a4_13 : decode cJ2_newBytesLength_0f7a4 13 = .ok (.ldc 20, 2) := by decide +kernel
theorem dJ2_newBytesLength_0f7a4_15 : decode cJ2_newBytesLength_0f7a4 15 = .ok (.if_icmp .lt 40, 3) := by decide +kernel
theorem dJ2_newBytesLength_0f7a4_18 : decode cJ2_newBytesLength_0f7a4 18 = .ok (.new 21, 3) := by decide +kernel
theorem dJ2_newBytesLength_0f7a4_21 : decode cJ2_newBytesLength_0f7a4 21 = .ok (.dup, 1) := by decide +kernel
theorem dJ2_newBytesLength_0f7a4_22 : decode cJ2_newBytesLength_0f7a4 22 = .ok (.new 23, 3) := by decide +kernel
theorem dJ2_newBytesLength_0f7a4_25 : decode cJ2_newBytesLength_0f7a4 25 = .ok (.dup, 1) := by decide +kernel
theorem dJ2_newBytesLength_0f7a4_26 : decode cJ2_newBytesLength_0f7a4 26 = .ok (.invokespecial 25, 3) := by decide +kernel
theorem dJ2_newBytesLength_0f7a4_29 : decode cJ2_newBytesLength_0f7a4 29 = .ok (.ldc 26, 2) := by decide +kernel
theorem dJ2_newBytesLength_0f7a4_31 : decode cJ2_newBytesLength_0f7a4 31 = .ok (.invokevirtual 28, 3) := by decide +kernel
theorem dJ2_newBytesLength_0f7a4_34 : decode cJ2_newBytesLength_0f7a4 34 = .ok (.iload_n 0, 1) := by decide +kernel
theorem dJ2_newBytesLength_0f7a4_35 : decode cJ2_newBytesLength_0f7a4 35 = .ok (.invokevirtual 32, 3) := by decide +kernel
theorem dJ2_newBytesLength_0f7a4_38 : decode cJ2_newBytesLength_0f7a4 38 = .ok (.ldc 35, 2) := by decide +kernel
theorem dJ2_newBytesLength_0f7a4_40 : decode cJ2_newBytesLength_0f7a4 40 = .ok (.invokevirtual 28, 3) := by decide +kernel
theorem dJ2_newBytesLength_0f7a4_43 : decode cJ2_newBytesLength_0f7a4 43 = .ok (.ldc 20, 2) := by decide +kernel
theorem dJ2_newBytesLength_0f7a4_45 : decode cJ2_newBytesLength_0f7a4 45 = .ok (.invokevirtual 32, 3) := by decide +kernel
theorem dJ2_newBytesLength_0f7a4_48 : decode cJ2_newBytesLength_0f7a4 48 = .ok (.invokevirtual 37, 3) := by decide +kernel
theorem dJ2_newBytesLength_0f7a4_51 : decode cJ2_newBytesLength_0f7a4 51 = .ok (.invokespecial 41, 3) := by decide +kernel
theorem dJ2_newBytesLength_0f7a4_54 : decode cJ2_newBytesLength_0f7a4 54 = .ok (.athrow, 1) := by decide +kernel
theorem dJ2_newBytesLength_0f7a4_55 : decode cJ2_newBytesLength_0f7a4 55 = .ok (.iload_n 0, 1) := by decide +kernel
theorem dJ2_newBytesLength_0f7a4_56 : decode cJ2_newBytesLength_0f7a4 56 = .ok (.iconst 1, 1) := by decide +kernel
theorem dJ2_newBytesLength_0f7a4_57 : decode cJ2_newBytesLength_0f7a4 57 = .ok (.ishl, 1) := by decide +kernel
theorem dJ2_newBytesLength_0f7a4_58 : decode cJ2_newBytesLength_0f7a4 58 = .ok (.ireturn, 1) := by decide +kernel
theorem dJ2_putChar_b72d1_0 : decode cJ2_putChar_b72d1 0 = .ok (.getstatic 44, 3) := by decide +kernel
theorem dJ2_putChar_b72d1_3 : decode cJ2_putChar_b72d1 3 = .ok (.ifCond .ne 25, 3) := by decide +kernel
theorem dJ2_putChar_b72d1_6 : decode cJ2_putChar_b72d1 6 = .ok (.iload_n 1, 1) := by decide +kernel
theorem dJ2_putChar_b72d1_7 : decode cJ2_putChar_b72d1 7 = .ok (.ifCond .lt 11, 3) := by decide +kernel
theorem dJ2_putChar_b72d1_10 : decode cJ2_putChar_b72d1 10 = .ok (.iload_n 1, 1) := by decide +kernel
theorem dJ2_putChar_b72d1_11 : decode cJ2_putChar_b72d1 11 = .ok (.aload_n 0, 1) := by decide +kernel
theorem dJ2_putChar_b72d1_12 : decode cJ2_putChar_b72d1 12 = .ok (.invokestatic 48, 3) := by decide +kernel
theorem dJ2_putChar_b72d1_15 : decode cJ2_putChar_b72d1 15 = .ok (.if_icmp .lt 13, 3) := by decide +kernel
theorem dJ2_putChar_b72d1_18 : decode cJ2_putChar_b72d1 18 = .ok (.new 52, 3) := by decide +kernel
theorem dJ2_putChar_b72d1_21 : decode cJ2_putChar_b72d1 21 = .ok (.dup, 1) := by decide +kernel
theorem dJ2_putChar_b72d1_22 : decode cJ2_putChar_b72d1 22 = .ok (.ldc 54, 2) := by decide +kernel
theorem dJ2_putChar_b72d1_24 : decode cJ2_putChar_b72d1 24 = .ok (.invokespecial 56, 3) := by decide +kernel
theorem dJ2_putChar_b72d1_27 : decode cJ2_putChar_b72d1 27 = .ok (.athrow, 1) := by decide +kernel
theorem dJ2_putChar_b72d1_28 : decode cJ2_putChar_b72d1 28 = .ok (.iload_n 1, 1) := by decide +kernel
theorem dJ2_putChar_b72d1_29 : decode cJ2_putChar_b72d1 29 = .ok (.iconst 1, 1) := by decide +kernel
theorem dJ2_putChar_b72d1_30 : decode cJ2_putChar_b72d1 30 = .ok (.ishl, 1) := by decide +kernel
theorem dJ2_putChar_b72d1_31 : decode cJ2_putChar_b72d1 31 = .ok (.istore_n 1, 1) := by decide +kernel
theorem dJ2_putChar_b72d1_32 : decode cJ2_putChar_b72d1 32 = .ok (.aload_n 0, 1) := by decide +kernel
theorem dJ2_putChar_b72d1_33 : decode cJ2_putChar_b72d1 33 = .ok (.iload_n 1, 1) := by decide +kernel
theorem dJ2_putChar_b72d1_34 : decode cJ2_putChar_b72d1 34 = .ok (.iinc 1 1, 3) := by decide +kernel
theorem dJ2_putChar_b72d1_37 : decode cJ2_putChar_b72d1 37 = .ok (.iload_n 2, 1) := by decide +kernel
theorem dJ2_putChar_b72d1_38 : decode cJ2_putChar_b72d1 38 = .ok (.getstatic 59, 3) := by decide +kernel
theorem dJ2_putChar_b72d1_41 : decode cJ2_putChar_b72d1 41 = .ok (.ishr, 1) := by decide +kernel
theorem dJ2_putChar_b72d1_42 : decode cJ2_putChar_b72d1 42 = .ok (.i2b, 1) := by decide +kernel
theorem dJ2_putChar_b72d1_43 : decode cJ2_putChar_b72d1 43 = .ok (.bastore, 1) := by decide +kernel
theorem dJ2_putChar_b72d1_44 : decode cJ2_putChar_b72d1 44 = .ok (.aload_n 0, 1) := by decide +kernel
theorem dJ2_putChar_b72d1_45 : decode cJ2_putChar_b72d1 45 = .ok (.iload_n 1, 1) := by decide +kernel
theorem dJ2_putChar_b72d1_46 : decode cJ2_putChar_b72d1 46 = .ok (.iload_n 2, 1) := by decide +kernel
theorem dJ2_putChar_b72d1_47 : decode cJ2_putChar_b72d1 47 = .ok (.getstatic 63, 3) := by decide +kernel
theorem dJ2_putChar_b72d1_50 : decode cJ2_putChar_b72d1 50 = .ok (.ishr, 1) := by decide +kernel
theorem dJ2_putChar_b72d1_51 : decode cJ2_putChar_b72d1 51 = .ok (.i2b, 1) := by decide +kernel
theorem dJ2_putChar_b72d1_52 : decode cJ2_putChar_b72d1 52 = .ok (.bastore, 1) := by decide +kernel
theorem dJ2_putChar_b72d1_53 : decode cJ2_putChar_b72d1 53 = .ok (.return_, 1) := by decide +kernel
theorem dJ2_getChar_3b067_0 : decode cJ2_getChar_3b067 0 = .ok (.getstatic 44, 3) := by decide +kernel
theorem dJ2_getChar_3b067_3 : decode cJ2_getChar_3b067 3 = .ok (.ifCond .ne 25, 3) := by decide +kernel
theorem dJ2_getChar_3b067_6 : decode cJ2_getChar_3b067 6 = .ok (.iload_n 1, 1) := by decide +kernel
theorem dJ2_getChar_3b067_7 : decode cJ2_getChar_3b067 7 = .ok (.ifCond .lt 11, 3) := by decide +kernel
theorem dJ2_getChar_3b067_10 : decode cJ2_getChar_3b067 10 = .ok (.iload_n 1, 1) := by decide +kernel
theorem dJ2_getChar_3b067_11 : decode cJ2_getChar_3b067 11 = .ok (.aload_n 0, 1) := by decide +kernel
theorem dJ2_getChar_3b067_12 : decode cJ2_getChar_3b067 12 = .ok (.invokestatic 48, 3) := by decide +kernel
theorem dJ2_getChar_3b067_15 : decode cJ2_getChar_3b067 15 = .ok (.if_icmp .lt 13, 3) := by decide +kernel
theorem dJ2_getChar_3b067_18 : decode cJ2_getChar_3b067 18 = .ok (.new 52, 3) := by decide +kernel
theorem dJ2_getChar_3b067_21 : decode cJ2_getChar_3b067 21 = .ok (.dup, 1) := by decide +kernel
theorem dJ2_getChar_3b067_22 : decode cJ2_getChar_3b067 22 = .ok (.ldc 54, 2) := by decide +kernel
theorem dJ2_getChar_3b067_24 : decode cJ2_getChar_3b067 24 = .ok (.invokespecial 56, 3) := by decide +kernel
theorem dJ2_getChar_3b067_27 : decode cJ2_getChar_3b067 27 = .ok (.athrow, 1) := by decide +kernel
theorem dJ2_getChar_3b067_28 : decode cJ2_getChar_3b067 28 = .ok (.iload_n 1, 1) := by decide +kernel
theorem dJ2_getChar_3b067_29 : decode cJ2_getChar_3b067 29 = .ok (.iconst 1, 1) := by decide +kernel
theorem dJ2_getChar_3b067_30 : decode cJ2_getChar_3b067 30 = .ok (.ishl, 1) := by decide +kernel
theorem dJ2_getChar_3b067_31 : decode cJ2_getChar_3b067 31 = .ok (.istore_n 1, 1) := by decide +kernel
theorem dJ2_getChar_3b067_32 : decode cJ2_getChar_3b067 32 = .ok (.aload_n 0, 1) := by decide +kernel
theorem dJ2_getChar_3b067_33 : decode cJ2_getChar_3b067 33 = .ok (.iload_n 1, 1) := by decide +kernel
theorem dJ2_getChar_3b067_34 : decode cJ2_getChar_3b067 34 = .ok (.iinc 1 1, 3) := by decide +kernel
theorem dJ2_getChar_3b067_37 : decode cJ2_getChar_3b067 37 = .ok (.baload, 1) := by decide +kernel
theorem dJ2_getChar_3b067_38 : decode cJ2_getChar_3b067 38 = .ok (.sipush 255, 3) := by decide +kernel
theorem dJ2_getChar_3b067_41 : decode cJ2_getChar_3b067 41 = .ok (.iand, 1) := by decide +kernel
theorem dJ2_getChar_3b067_42 : decode cJ2_getChar_3b067 42 = .ok (.getstatic 59, 3) := by decide +kernel
theorem dJ2_getChar_3b067_45 : decode cJ2_getChar_3b067 45 = .ok (.ishl, 1) := by decide +kernel
theorem dJ2_getChar_3b067_46 : decode cJ2_getChar_3b067 46 = .ok (.aload_n 0, 1) := by decide +kernel
theorem dJ2_getChar_3b067_47 : decode cJ2_getChar_3b067 47 = .ok (.iload_n 1, 1) := by decide +kernel
theorem dJ2_getChar_3b067_48 : decode cJ2_getChar_3b067 48 = .ok (.baload, 1) := by decide +kernel
theorem dJ2_getChar_3b067_49 : decode cJ2_getChar_3b067 49 = .ok (.sipush 255, 3) := by decide +kernel
theorem dJ2_getChar_3b067_52 : decode cJ2_getChar_3b067 52 = .ok (.iand, 1) := by decide +kernel
theorem dJ2_getChar_3b067_53 : decode cJ2_getChar_3b067 53 = .ok (.getstatic 63, 3) := by decide +kernel
theorem dJ2_getChar_3b067_56 : decode cJ2_getChar_3b067 56 = .ok (.ishl, 1) := by decide +kernel
theorem dJ2_getChar_3b067_57 : decode cJ2_getChar_3b067 57 = .ok (.ior, 1) := by decide +kernel
theorem dJ2_getChar_3b067_58 : decode cJ2_getChar_3b067 58 = .ok (.i2c, 1) := by decide +kernel
theorem dJ2_getChar_3b067_59 : decode cJ2_getChar_3b067 59 = .ok (.ireturn, 1) := by decide +kernel
theorem dJ2_length_9d52b_0 : decode cJ2_length_9d52b 0 = .ok (.aload_n 0, 1) := by decide +kernel
theorem dJ2_length_9d52b_1 : decode cJ2_length_9d52b 1 = .ok (.arraylength, 1) := by decide +kernel
theorem dJ2_length_9d52b_2 : decode cJ2_length_9d52b 2 = .ok (.iconst 1, 1) := by decide +kernel
theorem dJ2_length_9d52b_3 : decode cJ2_length_9d52b 3 = .ok (.ishr, 1) := by decide +kernel
theorem dJ2_length_9d52b_4 : decode cJ2_length_9d52b 4 = .ok (.ireturn, 1) := by decide +kernel
theorem dJ2_putCharSB_b72d1_0 : decode cJ2_putCharSB_b72d1 0 = .ok (.iload_n 1, 1) := by decide +kernel
theorem dJ2_putCharSB_b72d1_1 : decode cJ2_putCharSB_b72d1 1 = .ok (.aload_n 0, 1) := by decide +kernel
theorem dJ2_putCharSB_b72d1_2 : decode cJ2_putCharSB_b72d1 2 = .ok (.invokestatic 67, 3) := by decide +kernel
theorem dJ2_putCharSB_b72d1_5 : decode cJ2_putCharSB_b72d1 5 = .ok (.aload_n 0, 1) := by decide +kernel
theorem dJ2_putCharSB_b72d1_6 : decode cJ2_putCharSB_b72d1 6 = .ok (.iload_n 1, 1) := by decide +kernel
theorem dJ2_putCharSB_b72d1_7 : decode cJ2_putCharSB_b72d1 7 = .ok (.iload_n 2, 1) := by decide +kernel
theorem dJ2_putCharSB_b72d1_8 : decode cJ2_putCharSB_b72d1 8 = .ok (.invokestatic 111, 3) := by decide +kernel
theorem dJ2_putCharSB_b72d1_11 : decode cJ2_putCharSB_b72d1 11 = .ok (.return_, 1) := by decide +kernel
theorem dJ2_getChars_46870_0 : decode cJ2_getChars_46870 0 = .ok (.iload_n 1, 1) := by decide +kernel
theorem dJ2_getChars_46870_1 : decode cJ2_getChars_46870 1 = .ok (.iload_n 2, 1) := by decide +kernel
theorem dJ2_getChars_46870_2 : decode cJ2_getChars_46870 2 = .ok (.aload_n 3, 1) := by decide +kernel
theorem dJ2_getChars_46870_3 : decode cJ2_getChars_46870 3 = .ok (.invokestatic 96, 3) := by decide +kernel
theorem dJ2_getChars_46870_6 : decode cJ2_getChars_46870 6 = .ok (.iload_n 0, 1) := by decide +kernel
theorem dJ2_getChars_46870_7 : decode cJ2_getChars_46870 7 = .ok (.iload_n 2, 1) := by decide +kernel
theorem dJ2_getChars_46870_8 : decode cJ2_getChars_46870 8 = .ok (.aload_n 3, 1) := by decide +kernel
theorem dJ2_getChars_46870_9 : decode cJ2_getChars_46870 9 = .ok (.invokestatic 393, 3) := by decide +kernel
theorem dJ2_getChars_46870_12 : decode cJ2_getChars_46870 12 = .ok (.istore 4, 2) := by decide +kernel
theorem dJ2_getChars_46870_14 : decode cJ2_getChars_46870 14 = .ok (.getstatic 44, 3) := by decide +kernel
theorem dJ2_getChars_46870_17 : decode cJ2_getChars_46870 17 = .ok (.ifCond .ne 17, 3) := by decide +kernel
theorem dJ2_getChars_46870_20 : decode cJ2_getChars_46870 20 = .ok (.iload_n 1, 1) := by decide +kernel
theorem dJ2_getChars_46870_21 : decode cJ2_getChars_46870 21 = .ok (.iload 4, 2) := by decide +kernel
theorem dJ2_getChars_46870_23 : decode cJ2_getChars_46870 23 = .ok (.if_icmp .eq 11, 3) := by decide +kernel
theorem dJ2_getChars_46870_26 : decode cJ2_getChars_46870 26 = .ok (.new 52, 3) := by decide +kernel
theorem dJ2_getChars_46870_29 : decode cJ2_getChars_46870 29 = .ok (.dup, 1) := by decide +kernel
theorem dJ2_getChars_46870_30 : decode cJ2_getChars_46870 30 = .ok (.invokespecial 66, 3) := by decide +kernel
theorem dJ2_getChars_46870_33 : decode cJ2_getChars_46870 33 = .ok (.athrow, 1) := by decide +kernel
theorem dJ2_getChars_46870_34 : decode cJ2_getChars_46870 34 = .ok (.iload 4, 2) := by decide +kernel
theorem dJ2_getChars_46870_36 : decode cJ2_getChars_46870 36 = .ok (.ireturn, 1) := by decide +kernel
theorem dJ2_putCharsAt_cd4e5_0 : decode cJ2_putCharsAt_cd4e5 0 = .ok (.iload_n 1, 1) := by decide +kernel
theorem dJ2_putCharsAt_cd4e5_1 : decode cJ2_putCharsAt_cd4e5 1 = .ok (.iconst 4, 1) := by decide +kernel
theorem dJ2_putCharsAt_cd4e5_2 : decode cJ2_putCharsAt_cd4e5 2 = .ok (.iadd, 1) := by decide +kernel
theorem dJ2_putCharsAt_cd4e5_3 : decode cJ2_putCharsAt_cd4e5 3 = .ok (.istore 6, 2) := by decide +kernel
theorem dJ2_putCharsAt_cd4e5_5 : decode cJ2_putCharsAt_cd4e5 5 = .ok (.iload_n 1, 1) := by decide +kernel
theorem dJ2_putCharsAt_cd4e5_6 : decode cJ2_putCharsAt_cd4e5 6 = .ok (.iload 6, 2) := by decide +kernel
theorem dJ2_putCharsAt_cd4e5_8 : decode cJ2_putCharsAt_cd4e5 8 = .ok (.aload_n 0, 1) := by decide +kernel
theorem dJ2_putCharsAt_cd4e5_9 : decode cJ2_putCharsAt_cd4e5 9 = .ok (.invokestatic 96, 3) := by decide +kernel
theorem dJ2_putCharsAt_cd4e5_12 : decode cJ2_putCharsAt_cd4e5 12 = .ok (.aload_n 0, 1) := by decide +kernel
theorem dJ2_putCharsAt_cd4e5_13 : decode cJ2_putCharsAt_cd4e5 13 = .ok (.iload_n 1, 1) := by decide +kernel
theorem dJ2_putCharsAt_cd4e5_14 : decode cJ2_putCharsAt_cd4e5 14 = .ok (.iinc 1 1, 3) := by decide +kernel
theorem dJ2_putCharsAt_cd4e5_17 : decode cJ2_putCharsAt_cd4e5 17 = .ok (.iload_n 2, 1) := by decide +kernel
theorem dJ2_putCharsAt_cd4e5_18 : decode cJ2_putCharsAt_cd4e5 18 = .ok (.invokestatic 111, 3) := by decide +kernel
theorem dJ2_putCharsAt_cd4e5_21 : decode cJ2_putCharsAt_cd4e5 21 = .ok (.aload_n 0, 1) := by decide +kernel
theorem dJ2_putCharsAt_cd4e5_22 : decode cJ2_putCharsAt_cd4e5 22 = .ok (.iload_n 1, 1) := by decide +kernel
theorem dJ2_putCharsAt_cd4e5_23 : decode cJ2_putCharsAt_cd4e5 23 = .ok (.iinc 1 1, 3) := by decide +kernel
theorem dJ2_putCharsAt_cd4e5_26 : decode cJ2_putCharsAt_cd4e5 26 = .ok (.iload_n 3, 1) := by decide +kernel
theorem dJ2_putCharsAt_cd4e5_27 : decode cJ2_putCharsAt_cd4e5 27 = .ok (.invokestatic 111, 3) := by decide +kernel
theorem dJ2_putCharsAt_cd4e5_30 : decode cJ2_putCharsAt_cd4e5 30 = .ok (.aload_n 0, 1) := by decide +kernel
theorem dJ2_putCharsAt_cd4e5_31 : decode cJ2_putCharsAt_cd4e5 31 = .ok (.iload_n 1, 1) := by decide +kernel
theorem dJ2_putCharsAt_cd4e5_32 : decode cJ2_putCharsAt_cd4e5 32 = .ok (.iinc 1 1, 3) := by decide +kernel
theorem dJ2_putCharsAt_cd4e5_35 : decode cJ2_putCharsAt_cd4e5 35 = .ok (.iload 4, 2) := by decide +kernel
theorem dJ2_putCharsAt_cd4e5_37 : decode cJ2_putCharsAt_cd4e5 37 = .ok (.invokestatic 111, 3) := by decide +kernel
theorem dJ2_putCharsAt_cd4e5_40 : decode cJ2_putCharsAt_cd4e5 40 = .ok (.aload_n 0, 1) := by decide +kernel
theorem dJ2_putCharsAt_cd4e5_41 : decode cJ2_putCharsAt_cd4e5 41 = .ok (.iload_n 1, 1) := by decide +kernel
theorem dJ2_putCharsAt_cd4e5_42 : decode cJ2_putCharsAt_cd4e5 42 = .ok (.iinc 1 1, 3) := by decide +kernel
theorem dJ2_putCharsAt_cd4e5_45 : decode cJ2_putCharsAt_cd4e5 45 = .ok (.iload 5, 2) := by decide +kernel
theorem dJ2_putCharsAt_cd4e5_47 : decode cJ2_putCharsAt_cd4e5 47 = .ok (.invokestatic 111, 3) := by decide +kernel
theorem dJ2_putCharsAt_cd4e5_50 : decode cJ2_putCharsAt_cd4e5 50 = .ok (.getstatic 44, 3) := by decide +kernel
theorem dJ2_putCharsAt_cd4e5_53 : decode cJ2_putCharsAt_cd4e5 53 = .ok (.ifCond .ne 17, 3) := by decide +kernel
theorem dJ2_putCharsAt_cd4e5_56 : decode cJ2_putCharsAt_cd4e5 56 = .ok (.iload_n 1, 1) := by decide +kernel
theorem dJ2_putCharsAt_cd4e5_57 : decode cJ2_putCharsAt_cd4e5 57 = .ok (.iload 6, 2) := by decide +kernel
theorem dJ2_putCharsAt_cd4e5_59 : decode cJ2_putCharsAt_cd4e5 59 = .ok (.if_icmp .eq 11, 3) := by decide +kernel
theorem dJ2_putCharsAt_cd4e5_62 : decode cJ2_putCharsAt_cd4e5 62 = .ok (.new 52, 3) := by decide +kernel
theorem dJ2_putCharsAt_cd4e5_65 : decode cJ2_putCharsAt_cd4e5 65 = .ok (.dup, 1) := by decide +kernel
theorem dJ2_putCharsAt_cd4e5_66 : decode cJ2_putCharsAt_cd4e5 66 = .ok (.invokespecial 66, 3) := by decide +kernel
theorem dJ2_putCharsAt_cd4e5_69 : decode cJ2_putCharsAt_cd4e5 69 = .ok (.athrow, 1) := by decide +kernel
theorem dJ2_putCharsAt_cd4e5_70 : decode cJ2_putCharsAt_cd4e5 70 = .ok (.iload 6, 2) := by decide +kernel
theorem dJ2_putCharsAt_cd4e5_72 : decode cJ2_putCharsAt_cd4e5 72 = .ok (.ireturn, 1) := by decide +kernel
theorem dJ2_charAt_3b067_0 : decode cJ2_charAt_3b067 0 = .ok (.iload_n 1, 1) := by decide +kernel
theorem dJ2_charAt_3b067_1 : decode cJ2_charAt_3b067 1 = .ok (.aload_n 0, 1) := by decide +kernel
theorem dJ2_charAt_3b067_2 : decode cJ2_charAt_3b067 2 = .ok (.invokestatic 67, 3) := by decide +kernel
theorem dJ2_charAt_3b067_5 : decode cJ2_charAt_3b067 5 = .ok (.aload_n 0, 1) := by decide +kernel
theorem dJ2_charAt_3b067_6 : decode cJ2_charAt_3b067 6 = .ok (.iload_n 1, 1) := by decide +kernel
theorem dJ2_charAt_3b067_7 : decode cJ2_charAt_3b067 7 = .ok (.invokestatic 71, 3) := by decide +kernel
theorem dJ2_charAt_3b067_10 : decode cJ2_charAt_3b067 10 = .ok (.ireturn, 1) := by decide +kernel
theorem dJ2_inflate_0e8fd_0 : decode cJ2_inflate_0e8fd 0 = .ok (.iload_n 3, 1) := by decide +kernel
theorem dJ2_inflate_0e8fd_1 : decode cJ2_inflate_0e8fd 1 = .ok (.iload 4, 2) := by decide +kernel
theorem dJ2_inflate_0e8fd_3 : decode cJ2_inflate_0e8fd 3 = .ok (.aload_n 2, 1) := by decide +kernel
theorem dJ2_inflate_0e8fd_4 : decode cJ2_inflate_0e8fd 4 = .ok (.invokestatic 173, 3) := by decide +kernel
theorem dJ2_inflate_0e8fd_7 : decode cJ2_inflate_0e8fd 7 = .ok (.iconst 0, 1) := by decide +kernel
theorem dJ2_inflate_0e8fd_8 : decode cJ2_inflate_0e8fd 8 = .ok (.istore 5, 2) := by decide +kernel
theorem dJ2_inflate_0e8fd_10 : decode cJ2_inflate_0e8fd 10 = .ok (.iload 5, 2) := by decide +kernel
theorem dJ2_inflate_0e8fd_12 : decode cJ2_inflate_0e8fd 12 = .ok (.iload 4, 2) := by decide +kernel
theorem dJ2_inflate_0e8fd_14 : decode cJ2_inflate_0e8fd 14 = .ok (.if_icmp .ge 27, 3) := by decide +kernel
theorem dJ2_inflate_0e8fd_17 : decode cJ2_inflate_0e8fd 17 = .ok (.aload_n 2, 1) := by decide +kernel
theorem dJ2_inflate_0e8fd_18 : decode cJ2_inflate_0e8fd 18 = .ok (.iload_n 3, 1) := by decide +kernel
theorem dJ2_inflate_0e8fd_19 : decode cJ2_inflate_0e8fd 19 = .ok (.iinc 3 1, 3) := by decide +kernel
theorem dJ2_inflate_0e8fd_22 : decode cJ2_inflate_0e8fd 22 = .ok (.aload_n 0, 1) := by decide +kernel
theorem dJ2_inflate_0e8fd_23 : decode cJ2_inflate_0e8fd 23 = .ok (.iload_n 1, 1) := by decide +kernel
theorem dJ2_inflate_0e8fd_24 : decode cJ2_inflate_0e8fd 24 = .ok (.iinc 1 1, 3) := by decide +kernel
theorem dJ2_inflate_0e8fd_27 : decode cJ2_inflate_0e8fd 27 = .ok (.baload, 1) := by decide +kernel
theorem dJ2_inflate_0e8fd_28 : decode cJ2_inflate_0e8fd 28 = .ok (.sipush 255, 3) := by decide +kernel
theorem dJ2_inflate_0e8fd_31 : decode cJ2_inflate_0e8fd 31 = .ok (.iand, 1) := by decide +kernel
theorem dJ2_inflate_0e8fd_32 : decode cJ2_inflate_0e8fd 32 = .ok (.invokestatic 111, 3) := by decide +kernel
theorem dJ2_inflate_0e8fd_35 : decode cJ2_inflate_0e8fd 35 = .ok (.iinc 5 1, 3) := by decide +kernel
theorem dJ2_inflate_0e8fd_38 : decode cJ2_inflate_0e8fd 38 = .ok (.goto (-28), 3) := by decide +kernel
theorem dJ2_inflate_0e8fd_41 : decode cJ2_inflate_0e8fd 41 = .ok (.return_, 1) := by decide +kernel
theorem dJ2_getChars_ba4f3_0 : decode cJ2_getChars_ba4f3 0 = .ok (.iload_n 1, 1) := by decide +kernel
theorem dJ2_getChars_ba4f3_1 : decode cJ2_getChars_ba4f3 1 = .ok (.istore 5, 2) := by decide +kernel
theorem dJ2_getChars_ba4f3_3 : decode cJ2_getChars_ba4f3 3 = .ok (.iload_n 0, 1) := by decide +kernel
theorem dJ2_getChars_ba4f3_4 : decode cJ2_getChars_ba4f3 4 = .ok (.ifCond .ge 7, 3) := by decide +kernel
theorem dJ2_getChars_ba4f3_7 : decode cJ2_getChars_ba4f3 7 = .ok (.iconst 1, 1) := by decide +kernel
theorem dJ2_getChars_ba4f3_8 : decode cJ2_getChars_ba4f3 8 = .ok (.goto 4, 3) := by decide +kernel
theorem dJ2_getChars_ba4f3_11 : decode cJ2_getChars_ba4f3 11 = .ok (.iconst 0, 1) := by decide +kernel
theorem dJ2_getChars_ba4f3_12 : decode cJ2_getChars_ba4f3 12 = .ok (.istore 6, 2) := by decide +kernel
theorem dJ2_getChars_ba4f3_14 : decode cJ2_getChars_ba4f3 14 = .ok (.iload 6, 2) := by decide +kernel
theorem dJ2_getChars_ba4f3_16 : decode cJ2_getChars_ba4f3 16 = .ok (.ifCond .ne 6, 3) := by decide +kernel
theorem dJ2_getChars_ba4f3_19 : decode cJ2_getChars_ba4f3 19 = .ok (.iload_n 0, 1) := by decide +kernel
theorem dJ2_getChars_ba4f3_20 : decode cJ2_getChars_ba4f3 20 = .ok (.ineg, 1) := by decide +kernel
theorem dJ2_getChars_ba4f3_21 : decode cJ2_getChars_ba4f3 21 = .ok (.istore_n 0, 1) := by decide +kernel
theorem dJ2_getChars_ba4f3_22 : decode cJ2_getChars_ba4f3 22 = .ok (.iload_n 0, 1) := by decide +kernel
theorem dJ2_getChars_ba4f3_23 : decode cJ2_getChars_ba4f3 23 = .ok (.bipush (-100), 2) := by decide +kernel
theorem dJ2_getChars_ba4f3_25 : decode cJ2_getChars_ba4f3 25 = .ok (.if_icmp .gt 51, 3) := by decide +kernel
theorem dJ2_getChars_ba4f3_28 : decode cJ2_getChars_ba4f3 28 = .ok (.iload_n 0, 1) := by decide +kernel
theorem dJ2_getChars_ba4f3_29 : decode cJ2_getChars_ba4f3 29 = .ok (.bipush 100, 2) := by decide +kernel
theorem dJ2_getChars_ba4f3_31 : decode cJ2_getChars_ba4f3 31 = .ok (.idiv, 1) := by decide +kernel
theorem dJ2_getChars_ba4f3_32 : decode cJ2_getChars_ba4f3 32 = .ok (.istore_n 3, 1) := by decide +kernel
theorem dJ2_getChars_ba4f3_33 : decode cJ2_getChars_ba4f3 33 = .ok (.iload_n 3, 1) := by decide +kernel
theorem dJ2_getChars_ba4f3_34 : decode cJ2_getChars_ba4f3 34 = .ok (.bipush 100, 2) := by decide +kernel
theorem dJ2_getChars_ba4f3_36 : decode cJ2_getChars_ba4f3 36 = .ok (.imul, 1) := by decide +kernel
theorem dJ2_getChars_ba4f3_37 : decode cJ2_getChars_ba4f3 37 = .ok (.iload_n 0, 1) := by decide +kernel
theorem dJ2_getChars_ba4f3_38 : decode cJ2_getChars_ba4f3 38 = .ok (.isub, 1) := by decide +kernel
theorem dJ2_getChars_ba4f3_39 : decode cJ2_getChars_ba4f3 39 = .ok (.istore 4, 2) := by decide +kernel
theorem dJ2_getChars_ba4f3_41 : decode cJ2_getChars_ba4f3 41 = .ok (.iload_n 3, 1) := by decide +kernel
theorem dJ2_getChars_ba4f3_42 : decode cJ2_getChars_ba4f3 42 = .ok (.istore_n 0, 1) := by decide +kernel
theorem dJ2_getChars_ba4f3_43 : decode cJ2_getChars_ba4f3 43 = .ok (.aload_n 2, 1) := by decide +kernel
theorem dJ2_getChars_ba4f3_44 : decode cJ2_getChars_ba4f3 44 = .ok (.iinc 5 (-1), 3) := by decide +kernel
theorem dJ2_getChars_ba4f3_47 : decode cJ2_getChars_ba4f3 47 = .ok (.iload 5, 2) := by decide +kernel
theorem dJ2_getChars_ba4f3_49 : decode cJ2_getChars_ba4f3 49 = .ok (.getstatic 403, 3) := by decide +kernel
theorem dJ2_getChars_ba4f3_52 : decode cJ2_getChars_ba4f3 52 = .ok (.iload 4, 2) := by decide +kernel
theorem dJ2_getChars_ba4f3_54 : decode cJ2_getChars_ba4f3 54 = .ok (.baload, 1) := by decide +kernel
theorem dJ2_getChars_ba4f3_55 : decode cJ2_getChars_ba4f3 55 = .ok (.invokestatic 111, 3) := by decide +kernel
theorem dJ2_getChars_ba4f3_58 : decode cJ2_getChars_ba4f3 58 = .ok (.aload_n 2, 1) := by decide +kernel
theorem dJ2_getChars_ba4f3_59 : decode cJ2_getChars_ba4f3 59 = .ok (.iinc 5 (-1), 3) := by decide +kernel
theorem dJ2_getChars_ba4f3_62 : decode cJ2_getChars_ba4f3 62 = .ok (.iload 5, 2) := by decide +kernel
theorem dJ2_getChars_ba4f3_64 : decode cJ2_getChars_ba4f3 64 = .ok (.getstatic 407, 3) := by decide +kernel
theorem dJ2_getChars_ba4f3_67 : decode cJ2_getChars_ba4f3 67 = .ok (.iload 4, 2) := by decide +kernel
theorem dJ2_getChars_ba4f3_69 : decode cJ2_getChars_ba4f3 69 = .ok (.baload, 1) := by decide +kernel
theorem dJ2_getChars_ba4f3_70 : decode cJ2_getChars_ba4f3 70 = .ok (.invokestatic 111, 3) := by decide +kernel
theorem dJ2_getChars_ba4f3_73 : decode cJ2_getChars_ba4f3 73 = .ok (.goto (-51), 3) := by decide +kernel
theorem dJ2_getChars_ba4f3_76 : decode cJ2_getChars_ba4f3 76 = .ok (.aload_n 2, 1) := by decide +kernel
theorem dJ2_getChars_ba4f3_77 : decode cJ2_getChars_ba4f3 77 = .ok (.iinc 5 (-1), 3) := by decide +kernel
theorem dJ2_getChars_ba4f3_80 : decode cJ2_getChars_ba4f3 80 = .ok (.iload 5, 2) := by decide +kernel
theorem dJ2_getChars_ba4f3_82 : decode cJ2_getChars_ba4f3 82 = .ok (.getstatic 403, 3) := by decide +kernel
theorem dJ2_getChars_ba4f3_85 : decode cJ2_getChars_ba4f3 85 = .ok (.iload_n 0, 1) := by decide +kernel
theorem dJ2_getChars_ba4f3_86 : decode cJ2_getChars_ba4f3 86 = .ok (.ineg, 1) := by decide +kernel
theorem dJ2_getChars_ba4f3_87 : decode cJ2_getChars_ba4f3 87 = .ok (.baload, 1) := by decide +kernel
theorem dJ2_getChars_ba4f3_88 : decode cJ2_getChars_ba4f3 88 = .ok (.invokestatic 111, 3) := by decide +kernel
theorem dJ2_getChars_ba4f3_91 : decode cJ2_getChars_ba4f3 91 = .ok (.iload_n 0, 1) := by decide +kernel
theorem dJ2_getChars_ba4f3_92 : decode cJ2_getChars_ba4f3 92 = .ok (.bipush (-9), 2) := by decide +kernel
theorem dJ2_getChars_ba4f3_94 : decode cJ2_getChars_ba4f3 94 = .ok (.if_icmp .ge 18, 3) := by decide +kernel
theorem dJ2_getChars_ba4f3_97 : decode cJ2_getChars_ba4f3 97 = .ok (.aload_n 2, 1) := by decide +kernel
theorem dJ2_getChars_ba4f3_98 : decode cJ2_getChars_ba4f3 98 = .ok (.iinc 5 (-1), 3) := by decide +kernel
theorem dJ2_getChars_ba4f3_101 : decode cJ2_getChars_ba4f3 101 = .ok (.iload 5, 2) := by decide +kernel
theorem dJ2_getChars_ba4f3_103 : decode cJ2_getChars_ba4f3 103 = .ok (.getstatic 407, 3) := by decide +kernel
theorem dJ2_getChars_ba4f3_106 : decode cJ2_getChars_ba4f3 106 = .ok (.iload_n 0, 1) := by decide +kernel
theorem dJ2_getChars_ba4f3_107 : decode cJ2_getChars_ba4f3 107 = .ok (.ineg, 1) := by decide +kernel
theorem dJ2_getChars_ba4f3_108 : decode cJ2_getChars_ba4f3 108 = .ok (.baload, 1) := by decide +kernel
theorem dJ2_getChars_ba4f3_109 : decode cJ2_getChars_ba4f3 109 = .ok (.invokestatic 111, 3) := by decide +kernel
theorem dJ2_getChars_ba4f3_112 : decode cJ2_getChars_ba4f3 112 = .ok (.iload 6, 2) := by decide +kernel
theorem dJ2_getChars_ba4f3_114 : decode cJ2_getChars_ba4f3 114 = .ok (.ifCond .eq 14, 3) := by decide +kernel
theorem dJ2_getChars_ba4f3_117 : decode cJ2_getChars_ba4f3 117 = .ok (.aload_n 2, 1) := by decide +kernel
theorem dJ2_getChars_ba4f3_118 : decode cJ2_getChars_ba4f3 118 = .ok (.iinc 5 (-1), 3) := by decide +kernel
theorem dJ2_getChars_ba4f3_121 : decode cJ2_getChars_ba4f3 121 = .ok (.iload 5, 2) := by decide +kernel
theorem dJ2_getChars_ba4f3_123 : decode cJ2_getChars_ba4f3 123 = .ok (.bipush 45, 2) := by decide +kernel
theorem dJ2_getChars_ba4f3_125 : decode cJ2_getChars_ba4f3 125 = .ok (.invokestatic 111, 3) := by decide +kernel
theorem dJ2_getChars_ba4f3_128 : decode cJ2_getChars_ba4f3 128 = .ok (.iload 5, 2) := by decide +kernel
theorem dJ2_getChars_ba4f3_130 : decode cJ2_getChars_ba4f3 130 = .ok (.ireturn, 1) := by decide +kernel
theorem dJ2_checkIndex_2214a_0 : decode cJ2_checkIndex_2214a 0 = .ok (.iload_n 0, 1) := by decide +kernel
theorem dJ2_checkIndex_2214a_1 : decode cJ2_checkIndex_2214a 1 = .ok (.aload_n 1, 1) := by decide +kernel
theorem dJ2_checkIndex_2214a_2 : decode cJ2_checkIndex_2214a 2 = .ok (.invokestatic 48, 3) := by decide +kernel
theorem dJ2_checkIndex_2214a_5 : decode cJ2_checkIndex_2214a 5 = .ok (.invokestatic 414, 3) := by decide +kernel
theorem dJ2_checkIndex_2214a_8 : decode cJ2_checkIndex_2214a 8 = .ok (.return_, 1) := by decide +kernel
theorem dJ2_checkBoundsBeginEnd_d044e_0 : decode cJ2_checkBoundsBeginEnd_d044e 0 = .ok (.iload_n 0, 1) := by decide +kernel
theorem dJ2_checkBoundsBeginEnd_d044e_1 : decode cJ2_checkBoundsBeginEnd_d044e 1 = .ok (.iload_n 1, 1) := by decide +kernel
theorem dJ2_checkBoundsBeginEnd_d044e_2 : decode cJ2_checkBoundsBeginEnd_d044e 2 = .ok (.aload_n 2, 1) := by decide +kernel
theorem dJ2_checkBoundsBeginEnd_d044e_3 : decode cJ2_checkBoundsBeginEnd_d044e 3 = .ok (.invokestatic 48, 3) := by decide +kernel
theorem dJ2_checkBoundsBeginEnd_d044e_6 : decode cJ2_checkBoundsBeginEnd_d044e 6 = .ok (.invokestatic 241, 3) := by decide +kernel
theorem dJ2_checkBoundsBeginEnd_d044e_9 : decode cJ2_checkBoundsBeginEnd_d044e 9 = .ok (.return_, 1) := by decide +kernel
theorem dJ2_checkBoundsOffCount_d044e_0 : decode cJ2_checkBoundsOffCount_d044e 0 = .ok (.iload_n 0, 1) := by decide +kernel
theorem dJ2_checkBoundsOffCount_d044e_1 : decode cJ2_checkBoundsOffCount_d044e 1 = .ok (.iload_n 1, 1) := by decide +kernel
theorem dJ2_checkBoundsOffCount_d044e_2 : decode cJ2_checkBoundsOffCount_d044e 2 = .ok (.aload_n 2, 1) := by decide +kernel
theorem dJ2_checkBoundsOffCount_d044e_3 : decode cJ2_checkBoundsOffCount_d044e 3 = .ok (.invokestatic 48, 3) := by decide +kernel
theorem dJ2_checkBoundsOffCount_d044e_6 : decode cJ2_checkBoundsOffCount_d044e 6 = .ok (.invokestatic 419, 3) := by decide +kernel
theorem dJ2_checkBoundsOffCount_d044e_9 : decode cJ2_checkBoundsOffCount_d044e 9 = .ok (.pop, 1) := by decide +kernel
theorem dJ2_checkBoundsOffCount_d044e_10 : decode cJ2_checkBoundsOffCount_d044e 10 = .ok (.return_, 1) := by decide +kernel
theorem dJ7_copyOf_9075b_0 : decode cJ7_copyOf_9075b 0 = .ok (.iload_n 1, 1) := by decide +kernel
theorem dJ7_copyOf_9075b_1 : decode cJ7_copyOf_9075b 1 = .ok (.aload_n 0, 1) := by decide +kernel
theorem dJ7_copyOf_9075b_2 : decode cJ7_copyOf_9075b 2 = .ok (.arraylength, 1) := by decide +kernel
theorem dJ7_copyOf_9075b_3 : decode cJ7_copyOf_9075b 3 = .ok (.if_icmp .ne 11, 3) := by decide +kernel
theorem dJ7_copyOf_9075b_6 : decode cJ7_copyOf_9075b 6 = .ok (.aload_n 0, 1) := by decide +kernel
theorem dJ7_copyOf_9075b_7 : decode cJ7_copyOf_9075b 7 = .ok (.invokevirtual 310, 3) := by decide +kernel
theorem dJ7_copyOf_9075b_10 : decode cJ7_copyOf_9075b 10 = .ok (.checkcast 311, 3) := by decide +kernel
theorem dJ7_copyOf_9075b_13 : decode cJ7_copyOf_9075b 13 = .ok (.areturn, 1) := by decide +kernel
theorem dJ7_copyOf_9075b_14 : decode cJ7_copyOf_9075b 14 = .ok (.iload_n 1, 1) := by decide +kernel
theorem dJ7_copyOf_9075b_15 : decode cJ7_copyOf_9075b 15 = .ok (.newarray .byte, 2) := by decide +kernel
theorem dJ7_copyOf_9075b_17 : decode cJ7_copyOf_9075b 17 = .ok (.astore_n 2, 1) := by decide +kernel
theorem dJ7_copyOf_9075b_18 : decode cJ7_copyOf_9075b 18 = .ok (.aload_n 0, 1) := by decide +kernel
theorem dJ7_copyOf_9075b_19 : decode cJ7_copyOf_9075b 19 = .ok (.iconst 0, 1) := by decide +kernel
theorem dJ7_copyOf_9075b_20 : decode cJ7_copyOf_9075b 20 = .ok (.aload_n 2, 1) := by decide +kernel
theorem dJ7_copyOf_9075b_21 : decode cJ7_copyOf_9075b 21 = .ok (.iconst 0, 1) := by decide +kernel
theorem dJ7_copyOf_9075b_22 : decode cJ7_copyOf_9075b 22 = .ok (.aload_n 0, 1) := by decide +kernel
theorem dJ7_copyOf_9075b_23 : decode cJ7_copyOf_9075b 23 = .ok (.arraylength, 1) := by decide +kernel
theorem dJ7_copyOf_9075b_24 : decode cJ7_copyOf_9075b 24 = .ok (.iload_n 1, 1) := by decide +kernel
theorem dJ7_copyOf_9075b_25 : decode cJ7_copyOf_9075b 25 = .ok (.invokestatic 304, 3) := by decide +kernel
theorem dJ7_copyOf_9075b_28 : decode cJ7_copyOf_9075b 28 = .ok (.invokestatic 150, 3) := by decide +kernel
theorem dJ7_copyOf_9075b_31 : decode cJ7_copyOf_9075b 31 = .ok (.aload_n 2, 1) := by decide +kernel
theorem dJ7_copyOf_9075b_32 : decode cJ7_copyOf_9075b 32 = .ok (.areturn, 1) := by decide +kernel
theorem dJ8_newLength_cabcc_0 : decode cJ8_newLength_cabcc 0 = .ok (.iload_n 0, 1) := by decide +kernel
theorem dJ8_newLength_cabcc_1 : decode cJ8_newLength_cabcc 1 = .ok (.iload_n 1, 1) := by decide +kernel
theorem dJ8_newLength_cabcc_2 : decode cJ8_newLength_cabcc 2 = .ok (.iload_n 2, 1) := by decide +kernel
theorem dJ8_newLength_cabcc_3 : decode cJ8_newLength_cabcc 3 = .ok (.invokestatic 194, 3) := by decide +kernel
theorem dJ8_newLength_cabcc_6 : decode cJ8_newLength_cabcc 6 = .ok (.iadd, 1) := by decide +kernel
theorem dJ8_newLength_cabcc_7 : decode cJ8_newLength_cabcc 7 = .ok (.istore_n 3, 1) := by decide +kernel
theorem dJ8_newLength_cabcc_8 : decode cJ8_newLength_cabcc 8 = .ok (.iconst 0, 1) := by decide +kernel
theorem dJ8_newLength_cabcc_9 : decode cJ8_newLength_cabcc 9 = .ok (.iload_n 3, 1) := by decide +kernel
theorem dJ8_newLength_cabcc_10 : decode cJ8_newLength_cabcc 10 = .ok (.if_icmp .ge 11, 3) := by decide +kernel
theorem dJ8_newLength_cabcc_13 : decode cJ8_newLength_cabcc 13 = .ok (.iload_n 3, 1) := by decide +kernel
theorem dJ8_newLength_cabcc_14 : decode cJ8_newLength_cabcc 14 = .ok (.ldc 200, 2) := by decide +kernel
theorem dJ8_newLength_cabcc_16 : decode cJ8_newLength_cabcc 16 = .ok (.if_icmp .gt 5, 3) := by decide +kernel
theorem dJ8_newLength_cabcc_19 : decode cJ8_newLength_cabcc 19 = .ok (.iload_n 3, 1) := by decide +kernel
theorem dJ8_newLength_cabcc_20 : decode cJ8_newLength_cabcc 20 = .ok (.ireturn, 1) := by decide +kernel
theorem dJ8_newLength_cabcc_21 : decode cJ8_newLength_cabcc 21 = .ok (.iload_n 0, 1) := by decide +kernel
theorem dJ8_newLength_cabcc_22 : decode cJ8_newLength_cabcc 22 = .ok (.iload_n 1, 1) := by decide +kernel
theorem dJ8_newLength_cabcc_23 : decode cJ8_newLength_cabcc 23 = .ok (.invokestatic 201, 3) := by decide +kernel
theorem dJ8_newLength_cabcc_26 : decode cJ8_newLength_cabcc 26 = .ok (.ireturn, 1) := by decide +kernel
theorem dJ8_hugeLength_7cf53_0 : decode cJ8_hugeLength_7cf53 0 = .ok (.iload_n 0, 1) := by decide +kernel
theorem dJ8_hugeLength_7cf53_1 : decode cJ8_hugeLength_7cf53 1 = .ok (.iload_n 1, 1) := by decide +kernel
theorem dJ8_hugeLength_7cf53_2 : decode cJ8_hugeLength_7cf53 2 = .ok (.iadd, 1) := by decide +kernel
theorem dJ8_hugeLength_7cf53_3 : decode cJ8_hugeLength_7cf53 3 = .ok (.istore_n 2, 1) := by decide +kernel
theorem dJ8_hugeLength_7cf53_4 : decode cJ8_hugeLength_7cf53 4 = .ok (.iload_n 2, 1) := by decide +kernel
theorem dJ8_hugeLength_7cf53_5 : decode cJ8_hugeLength_7cf53 5 = .ok (.ifCond .ge 44, 3) := by decide +kernel
theorem dJ8_hugeLength_7cf53_8 : decode cJ8_hugeLength_7cf53 8 = .ok (.new 204, 3) := by decide +kernel
theorem dJ8_hugeLength_7cf53_11 : decode cJ8_hugeLength_7cf53 11 = .ok (.dup, 1) := by decide +kernel
theorem dJ8_hugeLength_7cf53_12 : decode cJ8_hugeLength_7cf53 12 = .ok (.new 89, 3) := by decide +kernel
theorem dJ8_hugeLength_7cf53_15 : decode cJ8_hugeLength_7cf53 15 = .ok (.dup, 1) := by decide +kernel
theorem dJ8_hugeLength_7cf53_16 : decode cJ8_hugeLength_7cf53 16 = .ok (.invokespecial 91, 3) := by decide +kernel
theorem dJ8_hugeLength_7cf53_19 : decode cJ8_hugeLength_7cf53 19 = .ok (.ldc 206, 2) := by decide +kernel
theorem dJ8_hugeLength_7cf53_21 : decode cJ8_hugeLength_7cf53 21 = .ok (.invokevirtual 94, 3) := by decide +kernel
theorem dJ8_hugeLength_7cf53_24 : decode cJ8_hugeLength_7cf53 24 = .ok (.iload_n 0, 1) := by decide +kernel
theorem dJ8_hugeLength_7cf53_25 : decode cJ8_hugeLength_7cf53 25 = .ok (.invokevirtual 98, 3) := by decide +kernel
theorem dJ8_hugeLength_7cf53_28 : decode cJ8_hugeLength_7cf53 28 = .ok (.ldc 208, 2) := by decide +kernel
theorem dJ8_hugeLength_7cf53_30 : decode cJ8_hugeLength_7cf53 30 = .ok (.invokevirtual 94, 3) := by decide +kernel
theorem dJ8_hugeLength_7cf53_33 : decode cJ8_hugeLength_7cf53 33 = .ok (.iload_n 1, 1) := by decide +kernel
theorem dJ8_hugeLength_7cf53_34 : decode cJ8_hugeLength_7cf53 34 = .ok (.invokevirtual 98, 3) := by decide +kernel
theorem dJ8_hugeLength_7cf53_37 : decode cJ8_hugeLength_7cf53 37 = .ok (.ldc 210, 2) := by decide +kernel
theorem dJ8_hugeLength_7cf53_39 : decode cJ8_hugeLength_7cf53 39 = .ok (.invokevirtual 94, 3) := by decide +kernel
theorem dJ8_hugeLength_7cf53_42 : decode cJ8_hugeLength_7cf53 42 = .ok (.invokevirtual 101, 3) := by decide +kernel
theorem dJ8_hugeLength_7cf53_45 : decode cJ8_hugeLength_7cf53 45 = .ok (.invokespecial 212, 3) := by decide +kernel
theorem dJ8_hugeLength_7cf53_48 : decode cJ8_hugeLength_7cf53 48 = .ok (.athrow, 1) := by decide +kernel
theorem dJ8_hugeLength_7cf53_49 : decode cJ8_hugeLength_7cf53 49 = .ok (.iload_n 2, 1) := by decide +kernel
theorem dJ8_hugeLength_7cf53_50 : decode cJ8_hugeLength_7cf53 50 = .ok (.ldc 200, 2) := by decide +kernel
theorem dJ8_hugeLength_7cf53_52 : decode cJ8_hugeLength_7cf53 52 = .ok (.if_icmp .gt 6, 3) := by decide +kernel
theorem dJ8_hugeLength_7cf53_55 : decode cJ8_hugeLength_7cf53 55 = .ok (.ldc 200, 2) := by decide +kernel
theorem dJ8_hugeLength_7cf53_57 : decode cJ8_hugeLength_7cf53 57 = .ok (.ireturn, 1) := by decide +kernel
theorem dJ8_hugeLength_7cf53_58 : decode cJ8_hugeLength_7cf53 58 = .ok (.iload_n 2, 1) := by decide +kernel
theorem dJ8_hugeLength_7cf53_59 : decode cJ8_hugeLength_7cf53 59 = .ok (.ireturn, 1) := by decide +kernel
theorem dJ3_checkIndex_8e157_0 : decode cJ3_checkIndex_8e157 0 = .ok (.iload_n 0, 1) := by decide +kernel
theorem dJ3_checkIndex_8e157_1 : decode cJ3_checkIndex_8e157 1 = .ok (.ifCond .lt 8, 3) := by decide +kernel
theorem dJ3_checkIndex_8e157_4 : decode cJ3_checkIndex_8e157 4 = .ok (.iload_n 0, 1) := by decide +kernel
theorem dJ3_checkIndex_8e157_5 : decode cJ3_checkIndex_8e157 5 = .ok (.iload_n 1, 1) := by decide +kernel
theorem dJ3_checkIndex_8e157_6 : decode cJ3_checkIndex_8e157 6 = .ok (.if_icmp .lt 10, 3) := by decide +kernel
theorem dJ3_checkIndex_8e157_9 : decode cJ3_checkIndex_8e157 9 = .ok (.aload_n 2, 1) := by decide +kernel
theorem dJ3_checkIndex_8e157_10 : decode cJ3_checkIndex_8e157 10 = .ok (.iload_n 0, 1) := by decide +kernel
theorem dJ3_checkIndex_8e157_11 : decode cJ3_checkIndex_8e157 11 = .ok (.iload_n 1, 1) := by decide +kernel
theorem dJ3_checkIndex_8e157_12 : decode cJ3_checkIndex_8e157 12 = .ok (.invokestatic 95, 3) := by decide +kernel
theorem dJ3_checkIndex_8e157_15 : decode cJ3_checkIndex_8e157 15 = .ok (.athrow, 1) := by decide +kernel
theorem dJ3_checkIndex_8e157_16 : decode cJ3_checkIndex_8e157 16 = .ok (.iload_n 0, 1) := by decide +kernel
theorem dJ3_checkIndex_8e157_17 : decode cJ3_checkIndex_8e157 17 = .ok (.ireturn, 1) := by decide +kernel
theorem dJ3_checkFromToIndex_8c36e_0 : decode cJ3_checkFromToIndex_8c36e 0 = .ok (.iload_n 0, 1) := by decide +kernel
theorem dJ3_checkFromToIndex_8c36e_1 : decode cJ3_checkFromToIndex_8c36e 1 = .ok (.ifCond .lt 13, 3) := by decide +kernel
theorem dJ3_checkFromToIndex_8c36e_4 : decode cJ3_checkFromToIndex_8c36e 4 = .ok (.iload_n 0, 1) := by decide +kernel
theorem dJ3_checkFromToIndex_8c36e_5 : decode cJ3_checkFromToIndex_8c36e 5 = .ok (.iload_n 1, 1) := by decide +kernel
theorem dJ3_checkFromToIndex_8c36e_6 : decode cJ3_checkFromToIndex_8c36e 6 = .ok (.if_icmp .gt 8, 3) := by decide +kernel
theorem dJ3_checkFromToIndex_8c36e_9 : decode cJ3_checkFromToIndex_8c36e 9 = .ok (.iload_n 1, 1) := by decide +kernel
theorem dJ3_checkFromToIndex_8c36e_10 : decode cJ3_checkFromToIndex_8c36e 10 = .ok (.iload_n 2, 1) := by decide +kernel
theorem dJ3_checkFromToIndex_8c36e_11 : decode cJ3_checkFromToIndex_8c36e 11 = .ok (.if_icmp .le 11, 3) := by decide +kernel
theorem dJ3_checkFromToIndex_8c36e_14 : decode cJ3_checkFromToIndex_8c36e 14 = .ok (.aload_n 3, 1) := by decide +kernel
theorem dJ3_checkFromToIndex_8c36e_15 : decode cJ3_checkFromToIndex_8c36e 15 = .ok (.iload_n 0, 1) := by decide +kernel
theorem dJ3_checkFromToIndex_8c36e_16 : decode cJ3_checkFromToIndex_8c36e 16 = .ok (.iload_n 1, 1) := by decide +kernel
theorem dJ3_checkFromToIndex_8c36e_17 : decode cJ3_checkFromToIndex_8c36e 17 = .ok (.iload_n 2, 1) := by decide +kernel
theorem dJ3_checkFromToIndex_8c36e_18 : decode cJ3_checkFromToIndex_8c36e 18 = .ok (.invokestatic 99, 3) := by decide +kernel
theorem dJ3_checkFromToIndex_8c36e_21 : decode cJ3_checkFromToIndex_8c36e 21 = .ok (.athrow, 1) := by decide +kernel
theorem dJ3_checkFromToIndex_8c36e_22 : decode cJ3_checkFromToIndex_8c36e 22 = .ok (.iload_n 0, 1) := by decide +kernel
theorem dJ3_checkFromToIndex_8c36e_23 : decode cJ3_checkFromToIndex_8c36e 23 = .ok (.ireturn, 1) := by decide +kernel
theorem dJ3_checkFromIndexSize_8c36e_0 : decode cJ3_checkFromIndexSize_8c36e 0 = .ok (.iload_n 2, 1) := by decide +kernel
theorem dJ3_checkFromIndexSize_8c36e_1 : decode cJ3_checkFromIndexSize_8c36e 1 = .ok (.iload_n 0, 1) := by decide +kernel
theorem dJ3_checkFromIndexSize_8c36e_2 : decode cJ3_checkFromIndexSize_8c36e 2 = .ok (.ior, 1) := by decide +kernel
theorem dJ3_checkFromIndexSize_8c36e_3 : decode cJ3_checkFromIndexSize_8c36e 3 = .ok (.iload_n 1, 1) := by decide +kernel
theorem dJ3_checkFromIndexSize_8c36e_4 : decode cJ3_checkFromIndexSize_8c36e 4 = .ok (.ior, 1) := by decide +kernel
theorem dJ3_checkFromIndexSize_8c36e_5 : decode cJ3_checkFromIndexSize_8c36e 5 = .ok (.ifCond .lt 10, 3) := by decide +kernel
theorem dJ3_checkFromIndexSize_8c36e_8 : decode cJ3_checkFromIndexSize_8c36e 8 = .ok (.iload_n 1, 1) := by decide +kernel
theorem dJ3_checkFromIndexSize_8c36e_9 : decode cJ3_checkFromIndexSize_8c36e 9 = .ok (.iload_n 2, 1) := by decide +kernel
theorem dJ3_checkFromIndexSize_8c36e_10 : decode cJ3_checkFromIndexSize_8c36e 10 = .ok (.iload_n 0, 1) := by decide +kernel
theorem dJ3_checkFromIndexSize_8c36e_11 : decode cJ3_checkFromIndexSize_8c36e 11 = .ok (.isub, 1) := by decide +kernel
theorem dJ3_checkFromIndexSize_8c36e_12 : decode cJ3_checkFromIndexSize_8c36e 12 = .ok (.if_icmp .le 11, 3) := by decide +kernel
theorem dJ3_checkFromIndexSize_8c36e_15 : decode cJ3_checkFromIndexSize_8c36e 15 = .ok (.aload_n 3, 1) := by decide +kernel
theorem dJ3_checkFromIndexSize_8c36e_16 : decode cJ3_checkFromIndexSize_8c36e 16 = .ok (.iload_n 0, 1) := by decide +kernel
theorem dJ3_checkFromIndexSize_8c36e_17 : decode cJ3_checkFromIndexSize_8c36e 17 = .ok (.iload_n 1, 1) := by decide +kernel
theorem dJ3_checkFromIndexSize_8c36e_18 : decode cJ3_checkFromIndexSize_8c36e 18 = .ok (.iload_n 2, 1) := by decide +kernel
theorem dJ3_checkFromIndexSize_8c36e_19 : decode cJ3_checkFromIndexSize_8c36e 19 = .ok (.invokestatic 103, 3) := by decide +kernel
theorem dJ3_checkFromIndexSize_8c36e_22 : decode cJ3_checkFromIndexSize_8c36e 22 = .ok (.athrow, 1) := by decide +kernel
theorem dJ3_checkFromIndexSize_8c36e_23 : decode cJ3_checkFromIndexSize_8c36e 23 = .ok (.iload_n 0, 1) := by decide +kernel
theorem dJ3_checkFromIndexSize_8c36e_24 : decode cJ3_checkFromIndexSize_8c36e 24 = .ok (.ireturn, 1) := by decide +kernel
theorem dL_cell_0 : decode cL_cell 0 = .ok (.aload_n 0, 1) := by decide +kernel
theorem dL_cell_1 : decode cL_cell 1 = .ok (.arraylength, 1) := by decide +kernel
theorem dL_cell_2 : decode cL_cell 2 = .ok (.ifCond .ne 7, 3) := by decide +kernel
theorem dL_cell_5 : decode cL_cell 5 = .ok (.iconst 0, 1) := by decide +kernel
theorem dL_cell_6 : decode cL_cell 6 = .ok (.goto 17, 3) := by decide +kernel
theorem dL_cell_9 : decode cL_cell 9 = .ok (.aload_n 0, 1) := by decide +kernel
theorem dL_cell_10 : decode cL_cell 10 = .ok (.iload_n 1, 1) := by decide +kernel
theorem dL_cell_11 : decode cL_cell 11 = .ok (.aload_n 0, 1) := by decide +kernel
theorem dL_cell_12 : decode cL_cell 12 = .ok (.arraylength, 1) := by decide +kernel
theorem dL_cell_13 : decode cL_cell 13 = .ok (.irem, 1) := by decide +kernel
theorem dL_cell_14 : decode cL_cell 14 = .ok (.iaload, 1) := by decide +kernel
theorem dL_cell_15 : decode cL_cell 15 = .ok (.ldc 7, 2) := by decide +kernel
theorem dL_cell_17 : decode cL_cell 17 = .ok (.iload_n 1, 1) := by decide +kernel
theorem dL_cell_18 : decode cL_cell 18 = .ok (.aload_n 0, 1) := by decide +kernel
theorem dL_cell_19 : decode cL_cell 19 = .ok (.arraylength, 1) := by decide +kernel
theorem dL_cell_20 : decode cL_cell 20 = .ok (.idiv, 1) := by decide +kernel
theorem dL_cell_21 : decode cL_cell 21 = .ok (.imul, 1) := by decide +kernel
theorem dL_cell_22 : decode cL_cell 22 = .ok (.ixor, 1) := by decide +kernel
theorem dL_cell_23 : decode cL_cell 23 = .ok (.ireturn, 1) := by decide +kernel
theorem dL_pick_0 : decode cL_pick 0 = .ok (.aload_n 0, 1) := by decide +kernel
theorem dL_pick_1 : decode cL_pick 1 = .ok (.iload_n 1, 1) := by decide +kernel
theorem dL_pick_2 : decode cL_pick 2 = .ok (.invokestatic 8, 3) := by decide +kernel
theorem dL_pick_5 : decode cL_pick 5 = .ok (.ldc 14, 2) := by decide +kernel
theorem dL_pick_7 : decode cL_pick 7 = .ok (.iand, 1) := by decide +kernel
theorem dL_pick_8 : decode cL_pick 8 = .ok (.iload_n 2, 1) := by decide +kernel
theorem dL_pick_9 : decode cL_pick 9 = .ok (.irem, 1) := by decide +kernel
theorem dL_pick_10 : decode cL_pick 10 = .ok (.ireturn, 1) := by decide +kernel
theorem dL_kind_0 : decode cL_kind 0 = .ok (.iload_n 0, 1) := by decide +kernel
theorem dL_kind_1 : decode cL_kind 1 = .ok (.ifCond .ne 8, 3) := by decide +kernel
theorem dL_kind_4 : decode cL_kind 4 = .ok (.ldc 15, 2) := by decide +kernel
theorem dL_kind_6 : decode cL_kind 6 = .ok (.goto 25, 3) := by decide +kernel
theorem dL_kind_9 : decode cL_kind 9 = .ok (.iload_n 0, 1) := by decide +kernel
theorem dL_kind_10 : decode cL_kind 10 = .ok (.iconst 1, 1) := by decide +kernel
theorem dL_kind_11 : decode cL_kind 11 = .ok (.if_icmp .ne 8, 3) := by decide +kernel
theorem dL_kind_14 : decode cL_kind 14 = .ok (.ldc 17, 2) := by decide +kernel
theorem dL_kind_16 : decode cL_kind 16 = .ok (.goto 15, 3) := by decide +kernel
theorem dL_kind_19 : decode cL_kind 19 = .ok (.iload_n 0, 1) := by decide +kernel
theorem dL_kind_20 : decode cL_kind 20 = .ok (.iconst 2, 1) := by decide +kernel
theorem dL_kind_21 : decode cL_kind 21 = .ok (.if_icmp .ne 8, 3) := by decide +kernel
theorem dL_kind_24 : decode cL_kind 24 = .ok (.ldc 19, 2) := by decide +kernel
theorem dL_kind_26 : decode cL_kind 26 = .ok (.goto 5, 3) := by decide +kernel
theorem dL_kind_29 : decode cL_kind 29 = .ok (.ldc 21, 2) := by decide +kernel
theorem dL_kind_31 : decode cL_kind 31 = .ok (.areturn, 1) := by decide +kernel
theorem dL_begins_0 : decode cL_begins 0 = .ok (.iconst 3, 1) := by decide +kernel
theorem dL_begins_1 : decode cL_begins 1 = .ok (.aload_n 1, 1) := by decide +kernel
theorem dL_begins_2 : decode cL_begins 2 = .ok (.iconst 0, 1) := by decide +kernel
theorem dL_begins_3 : decode cL_begins 3 = .ok (.iconst 2, 1) := by decide +kernel
theorem dL_begins_4 : decode cL_begins 4 = .ok (.invokestatic 23, 3) := by decide +kernel
theorem dL_begins_7 : decode cL_begins 7 = .ok (.iadd, 1) := by decide +kernel
theorem dL_begins_8 : decode cL_begins 8 = .ok (.istore_n 2, 1) := by decide +kernel
theorem dL_begins_9 : decode cL_begins 9 = .ok (.iconst 1, 1) := by decide +kernel
theorem dL_begins_10 : decode cL_begins 10 = .ok (.aload_n 1, 1) := by decide +kernel
theorem dL_begins_11 : decode cL_begins 11 = .ok (.iconst 1, 1) := by decide +kernel
theorem dL_begins_12 : decode cL_begins 12 = .ok (.iconst 5, 1) := by decide +kernel
theorem dL_begins_13 : decode cL_begins 13 = .ok (.invokestatic 23, 3) := by decide +kernel
theorem dL_begins_16 : decode cL_begins 16 = .ok (.iadd, 1) := by decide +kernel
theorem dL_begins_17 : decode cL_begins 17 = .ok (.istore_n 3, 1) := by decide +kernel
theorem dL_begins_18 : decode cL_begins 18 = .ok (.bipush 10, 2) := by decide +kernel
theorem dL_begins_20 : decode cL_begins 20 = .ok (.aload_n 1, 1) := by decide +kernel
theorem dL_begins_21 : decode cL_begins 21 = .ok (.iconst 2, 1) := by decide +kernel
theorem dL_begins_22 : decode cL_begins 22 = .ok (.bipush 30, 2) := by decide +kernel
theorem dL_begins_24 : decode cL_begins 24 = .ok (.invokestatic 23, 3) := by decide +kernel
theorem dL_begins_27 : decode cL_begins 27 = .ok (.iadd, 1) := by decide +kernel
theorem dL_begins_28 : decode cL_begins 28 = .ok (.istore 4, 2) := by decide +kernel
theorem dL_begins_30 : decode cL_begins 30 = .ok (.new 27, 3) := by decide +kernel
theorem dL_begins_33 : decode cL_begins 33 = .ok (.dup, 1) := by decide +kernel
theorem dL_begins_34 : decode cL_begins 34 = .ok (.ldc 29, 2) := by decide +kernel
theorem dL_begins_36 : decode cL_begins 36 = .ok (.invokespecial 31, 3) := by decide +kernel
theorem dL_begins_39 : decode cL_begins 39 = .ok (.iload 4, 2) := by decide +kernel
theorem dL_begins_41 : decode cL_begins 41 = .ok (.invokevirtual 34, 3) := by decide +kernel
theorem dL_begins_44 : decode cL_begins 44 = .ok (.ldc 38, 2) := by decide +kernel
theorem dL_begins_46 : decode cL_begins 46 = .ok (.invokevirtual 40, 3) := by decide +kernel
theorem dL_begins_49 : decode cL_begins 49 = .ok (.astore 5, 2) := by decide +kernel
theorem dL_begins_51 : decode cL_begins 51 = .ok (.iconst 0, 1) := by decide +kernel
theorem dL_begins_52 : decode cL_begins 52 = .ok (.istore 6, 2) := by decide +kernel
theorem dL_begins_54 : decode cL_begins 54 = .ok (.iload 6, 2) := by decide +kernel
theorem dL_begins_56 : decode cL_begins 56 = .ok (.aload_n 1, 1) := by decide +kernel
theorem dL_begins_57 : decode cL_begins 57 = .ok (.iconst 3, 1) := by decide +kernel
theorem dL_begins_58 : decode cL_begins 58 = .ok (.iconst 3, 1) := by decide +kernel
theorem dL_begins_59 : decode cL_begins 59 = .ok (.invokestatic 23, 3) := by decide +kernel
theorem dL_begins_62 : decode cL_begins 62 = .ok (.if_icmp .gt 123, 3) := by decide +kernel
theorem dL_begins_65 : decode cL_begins 65 = .ok (.aload 5, 2) := by decide +kernel
theorem dL_begins_67 : decode cL_begins 67 = .ok (.ldc 43, 2) := by decide +kernel
theorem dL_begins_69 : decode cL_begins 69 = .ok (.invokevirtual 40, 3) := by decide +kernel
theorem dL_begins_72 : decode cL_begins 72 = .ok (.bipush 97, 2) := by decide +kernel
theorem dL_begins_74 : decode cL_begins 74 = .ok (.iload 6, 2) := by decide +kernel
theorem dL_begins_76 : decode cL_begins 76 = .ok (.iadd, 1) := by decide +kernel
theorem dL_begins_77 : decode cL_begins 77 = .ok (.i2c, 1) := by decide +kernel
theorem dL_begins_78 : decode cL_begins 78 = .ok (.invokevirtual 45, 3) := by decide +kernel
theorem dL_begins_81 : decode cL_begins 81 = .ok (.ldc 48, 2) := by decide +kernel
theorem dL_begins_83 : decode cL_begins 83 = .ok (.invokevirtual 40, 3) := by decide +kernel
theorem dL_begins_86 : decode cL_begins 86 = .ok (.iconst 1, 1) := by decide +kernel
theorem dL_begins_87 : decode cL_begins 87 = .ok (.aload_n 1, 1) := by decide +kernel
theorem dL_begins_88 : decode cL_begins 88 = .ok (.iconst 4, 1) := by decide +kernel
theorem dL_begins_89 : decode cL_begins 89 = .ok (.iload 6, 2) := by decide +kernel
theorem dL_begins_91 : decode cL_begins 91 = .ok (.iadd, 1) := by decide +kernel
theorem dL_begins_92 : decode cL_begins 92 = .ok (.bipush 9, 2) := by decide +kernel
theorem dL_begins_94 : decode cL_begins 94 = .ok (.invokestatic 23, 3) := by decide +kernel
theorem dL_begins_97 : decode cL_begins 97 = .ok (.iadd, 1) := by decide +kernel
theorem dL_begins_98 : decode cL_begins 98 = .ok (.invokevirtual 34, 3) := by decide +kernel
theorem dL_begins_101 : decode cL_begins 101 = .ok (.ldc 48, 2) := by decide +kernel
theorem dL_begins_103 : decode cL_begins 103 = .ok (.invokevirtual 40, 3) := by decide +kernel
theorem dL_begins_106 : decode cL_begins 106 = .ok (.iconst 5, 1) := by decide +kernel
theorem dL_begins_107 : decode cL_begins 107 = .ok (.aload_n 1, 1) := by decide +kernel
theorem dL_begins_108 : decode cL_begins 108 = .ok (.bipush 7, 2) := by decide +kernel
theorem dL_begins_110 : decode cL_begins 110 = .ok (.iload 6, 2) := by decide +kernel
theorem dL_begins_112 : decode cL_begins 112 = .ok (.iadd, 1) := by decide +kernel
theorem dL_begins_113 : decode cL_begins 113 = .ok (.bipush 20, 2) := by decide +kernel
theorem dL_begins_115 : decode cL_begins 115 = .ok (.invokestatic 23, 3) := by decide +kernel
theorem dL_begins_118 : decode cL_begins 118 = .ok (.iadd, 1) := by decide +kernel
theorem dL_begins_119 : decode cL_begins 119 = .ok (.invokevirtual 34, 3) := by decide +kernel
theorem dL_begins_122 : decode cL_begins 122 = .ok (.pop, 1) := by decide +kernel
theorem dL_begins_123 : decode cL_begins 123 = .ok (.iconst 0, 1) := by decide +kernel
theorem dL_begins_124 : decode cL_begins 124 = .ok (.istore 7, 2) := by decide +kernel
theorem dL_begins_126 : decode cL_begins 126 = .ok (.iload 7, 2) := by decide +kernel
theorem dL_begins_128 : decode cL_begins 128 = .ok (.aload_n 1, 1) := by decide +kernel
theorem dL_begins_129 : decode cL_begins 129 = .ok (.bipush 10, 2) := by decide +kernel
theorem dL_begins_131 : decode cL_begins 131 = .ok (.iload 6, 2) := by decide +kernel
theorem dL_begins_133 : decode cL_begins 133 = .ok (.iadd, 1) := by decide +kernel
theorem dL_begins_134 : decode cL_begins 134 = .ok (.iconst 3, 1) := by decide +kernel
theorem dL_begins_135 : decode cL_begins 135 = .ok (.invokestatic 23, 3) := by decide +kernel
theorem dL_begins_138 : decode cL_begins 138 = .ok (.if_icmp .gt 33, 3) := by decide +kernel
theorem dL_begins_141 : decode cL_begins 141 = .ok (.aload 5, 2) := by decide +kernel
theorem dL_begins_143 : decode cL_begins 143 = .ok (.aload_n 1, 1) := by decide +kernel
theorem dL_begins_144 : decode cL_begins 144 = .ok (.bipush 13, 2) := by decide +kernel
theorem dL_begins_146 : decode cL_begins 146 = .ok (.iconst 3, 1) := by decide +kernel
theorem dL_begins_147 : decode cL_begins 147 = .ok (.iload 6, 2) := by decide +kernel
theorem dL_begins_149 : decode cL_begins 149 = .ok (.imul, 1) := by decide +kernel
theorem dL_begins_150 : decode cL_begins 150 = .ok (.iadd, 1) := by decide +kernel
theorem dL_begins_151 : decode cL_begins 151 = .ok (.iload 7, 2) := by decide +kernel
theorem dL_begins_153 : decode cL_begins 153 = .ok (.iadd, 1) := by decide +kernel
theorem dL_begins_154 : decode cL_begins 154 = .ok (.iconst 4, 1) := by decide +kernel
theorem dL_begins_155 : decode cL_begins 155 = .ok (.invokestatic 23, 3) := by decide +kernel
theorem dL_begins_158 : decode cL_begins 158 = .ok (.invokestatic 50, 3) := by decide +kernel
theorem dL_begins_161 : decode cL_begins 161 = .ok (.invokevirtual 40, 3) := by decide +kernel
theorem dL_begins_164 : decode cL_begins 164 = .ok (.pop, 1) := by decide +kernel
theorem dL_begins_165 : decode cL_begins 165 = .ok (.iinc 7 1, 3) := by decide +kernel
theorem dL_begins_168 : decode cL_begins 168 = .ok (.goto (-42), 3) := by decide +kernel
theorem dL_begins_171 : decode cL_begins 171 = .ok (.aload 5, 2) := by decide +kernel
theorem dL_begins_173 : decode cL_begins 173 = .ok (.ldc 54, 2) := by decide +kernel
theorem dL_begins_175 : decode cL_begins 175 = .ok (.invokevirtual 40, 3) := by decide +kernel
theorem dL_begins_178 : decode cL_begins 178 = .ok (.pop, 1) := by decide +kernel
theorem dL_begins_179 : decode cL_begins 179 = .ok (.iinc 6 1, 3) := by decide +kernel
theorem dL_begins_182 : decode cL_begins 182 = .ok (.goto (-128), 3) := by decide +kernel
theorem dL_begins_185 : decode cL_begins 185 = .ok (.iconst 0, 1) := by decide +kernel
theorem dL_begins_186 : decode cL_begins 186 = .ok (.istore 6, 2) := by decide +kernel
theorem dL_begins_188 : decode cL_begins 188 = .ok (.iload 6, 2) := by decide +kernel
theorem dL_begins_190 : decode cL_begins 190 = .ok (.iload_n 2, 1) := by decide +kernel
theorem dL_begins_191 : decode cL_begins 191 = .ok (.if_icmp .ge 88, 3) := by decide +kernel
theorem dL_begins_194 : decode cL_begins 194 = .ok (.aload 5, 2) := by decide +kernel
theorem dL_begins_196 : decode cL_begins 196 = .ok (.ldc 56, 2) := by decide +kernel
theorem dL_begins_198 : decode cL_begins 198 = .ok (.invokevirtual 40, 3) := by decide +kernel
theorem dL_begins_201 : decode cL_begins 201 = .ok (.bipush 97, 2) := by decide +kernel
theorem dL_begins_203 : decode cL_begins 203 = .ok (.iload 6, 2) := by decide +kernel
theorem dL_begins_205 : decode cL_begins 205 = .ok (.iadd, 1) := by decide +kernel
theorem dL_begins_206 : decode cL_begins 206 = .ok (.i2c, 1) := by decide +kernel
theorem dL_begins_207 : decode cL_begins 207 = .ok (.invokevirtual 45, 3) := by decide +kernel
theorem dL_begins_210 : decode cL_begins 210 = .ok (.ldc 48, 2) := by decide +kernel
theorem dL_begins_212 : decode cL_begins 212 = .ok (.invokevirtual 40, 3) := by decide +kernel
theorem dL_begins_215 : decode cL_begins 215 = .ok (.iload 6, 2) := by decide +kernel
theorem dL_begins_217 : decode cL_begins 217 = .ok (.invokevirtual 34, 3) := by decide +kernel
theorem dL_begins_220 : decode cL_begins 220 = .ok (.pop, 1) := by decide +kernel
theorem dL_begins_221 : decode cL_begins 221 = .ok (.iload 6, 2) := by decide +kernel
theorem dL_begins_223 : decode cL_begins 223 = .ok (.ifCond .le 42, 3) := by decide +kernel
theorem dL_begins_226 : decode cL_begins 226 = .ok (.aload_n 1, 1) := by decide +kernel
theorem dL_begins_227 : decode cL_begins 227 = .ok (.bipush 22, 2) := by decide +kernel
theorem dL_begins_229 : decode cL_begins 229 = .ok (.iload 6, 2) := by decide +kernel
theorem dL_begins_231 : decode cL_begins 231 = .ok (.iadd, 1) := by decide +kernel
theorem dL_begins_232 : decode cL_begins 232 = .ok (.iconst 3, 1) := by decide +kernel
theorem dL_begins_233 : decode cL_begins 233 = .ok (.invokestatic 23, 3) := by decide +kernel
theorem dL_begins_236 : decode cL_begins 236 = .ok (.ifCond .le 29, 3) := by decide +kernel
theorem dL_begins_239 : decode cL_begins 239 = .ok (.aload 5, 2) := by decide +kernel
theorem dL_begins_241 : decode cL_begins 241 = .ok (.ldc 58, 2) := by decide +kernel
theorem dL_begins_243 : decode cL_begins 243 = .ok (.invokevirtual 40, 3) := by decide +kernel
theorem dL_begins_246 : decode cL_begins 246 = .ok (.bipush 97, 2) := by decide +kernel
theorem dL_begins_248 : decode cL_begins 248 = .ok (.aload_n 1, 1) := by decide +kernel
theorem dL_begins_249 : decode cL_begins 249 = .ok (.bipush 26, 2) := by decide +kernel
theorem dL_begins_251 : decode cL_begins 251 = .ok (.iload 6, 2) := by decide +kernel
theorem dL_begins_253 : decode cL_begins 253 = .ok (.iadd, 1) := by decide +kernel
theorem dL_begins_254 : decode cL_begins 254 = .ok (.iload 6, 2) := by decide +kernel
theorem dL_begins_256 : decode cL_begins 256 = .ok (.invokestatic 23, 3) := by decide +kernel
theorem dL_begins_259 : decode cL_begins 259 = .ok (.iadd, 1) := by decide +kernel
theorem dL_begins_260 : decode cL_begins 260 = .ok (.i2c, 1) := by decide +kernel
theorem dL_begins_261 : decode cL_begins 261 = .ok (.invokevirtual 45, 3) := by decide +kernel
theorem dL_begins_264 : decode cL_begins 264 = .ok (.pop, 1) := by decide +kernel
theorem dL_begins_265 : decode cL_begins 265 = .ok (.aload 5, 2) := by decide +kernel
theorem dL_begins_267 : decode cL_begins 267 = .ok (.ldc 54, 2) := by decide +kernel
theorem dL_begins_269 : decode cL_begins 269 = .ok (.invokevirtual 40, 3) := by decide +kernel
theorem dL_begins_272 : decode cL_begins 272 = .ok (.pop, 1) := by decide +kernel
theorem dL_begins_273 : decode cL_begins 273 = .ok (.iinc 6 1, 3) := by decide +kernel
theorem dL_begins_276 : decode cL_begins 276 = .ok (.goto (-88), 3) := by decide +kernel
theorem dL_begins_279 : decode cL_begins 279 = .ok (.iconst 0, 1) := by decide +kernel
theorem dL_begins_280 : decode cL_begins 280 = .ok (.istore 6, 2) := by decide +kernel
theorem dL_begins_282 : decode cL_begins 282 = .ok (.iload 6, 2) := by decide +kernel
theorem dL_begins_284 : decode cL_begins 284 = .ok (.iload_n 3, 1) := by decide +kernel
theorem dL_begins_285 : decode cL_begins 285 = .ok (.if_icmp .ge 97, 3) := by decide +kernel
theorem dL_begins_288 : decode cL_begins 288 = .ok (.aload 5, 2) := by decide +kernel
theorem dL_begins_290 : decode cL_begins 290 = .ok (.ldc 60, 2) := by decide +kernel
theorem dL_begins_292 : decode cL_begins 292 = .ok (.invokevirtual 40, 3) := by decide +kernel
theorem dL_begins_295 : decode cL_begins 295 = .ok (.bipush 97, 2) := by decide +kernel
theorem dL_begins_297 : decode cL_begins 297 = .ok (.iload 6, 2) := by decide +kernel
theorem dL_begins_299 : decode cL_begins 299 = .ok (.iadd, 1) := by decide +kernel
theorem dL_begins_300 : decode cL_begins 300 = .ok (.i2c, 1) := by decide +kernel
theorem dL_begins_301 : decode cL_begins 301 = .ok (.invokevirtual 45, 3) := by decide +kernel
theorem dL_begins_304 : decode cL_begins 304 = .ok (.ldc 62, 2) := by decide +kernel
theorem dL_begins_306 : decode cL_begins 306 = .ok (.invokevirtual 40, 3) := by decide +kernel
theorem dL_begins_309 : decode cL_begins 309 = .ok (.bipush 97, 2) := by decide +kernel
theorem dL_begins_311 : decode cL_begins 311 = .ok (.aload_n 1, 1) := by decide +kernel
theorem dL_begins_312 : decode cL_begins 312 = .ok (.bipush 30, 2) := by decide +kernel
theorem dL_begins_314 : decode cL_begins 314 = .ok (.iload 6, 2) := by decide +kernel
theorem dL_begins_316 : decode cL_begins 316 = .ok (.iadd, 1) := by decide +kernel
theorem dL_begins_317 : decode cL_begins 317 = .ok (.iload_n 2, 1) := by decide +kernel
theorem dL_begins_318 : decode cL_begins 318 = .ok (.invokestatic 23, 3) := by decide +kernel
theorem dL_begins_321 : decode cL_begins 321 = .ok (.iadd, 1) := by decide +kernel
theorem dL_begins_322 : decode cL_begins 322 = .ok (.i2c, 1) := by decide +kernel
theorem dL_begins_323 : decode cL_begins 323 = .ok (.invokevirtual 45, 3) := by decide +kernel
theorem dL_begins_326 : decode cL_begins 326 = .ok (.ldc 48, 2) := by decide +kernel
theorem dL_begins_328 : decode cL_begins 328 = .ok (.invokevirtual 40, 3) := by decide +kernel
theorem dL_begins_331 : decode cL_begins 331 = .ok (.iconst 2, 1) := by decide +kernel
theorem dL_begins_332 : decode cL_begins 332 = .ok (.aload_n 1, 1) := by decide +kernel
theorem dL_begins_333 : decode cL_begins 333 = .ok (.bipush 35, 2) := by decide +kernel
theorem dL_begins_335 : decode cL_begins 335 = .ok (.iload 6, 2) := by decide +kernel
theorem dL_begins_337 : decode cL_begins 337 = .ok (.iadd, 1) := by decide +kernel
theorem dL_begins_338 : decode cL_begins 338 = .ok (.iload 4, 2) := by decide +kernel
theorem dL_begins_340 : decode cL_begins 340 = .ok (.iconst 1, 1) := by decide +kernel
theorem dL_begins_341 : decode cL_begins 341 = .ok (.isub, 1) := by decide +kernel
theorem dL_begins_342 : decode cL_begins 342 = .ok (.invokestatic 23, 3) := by decide +kernel
theorem dL_begins_345 : decode cL_begins 345 = .ok (.iadd, 1) := by decide +kernel
theorem dL_begins_346 : decode cL_begins 346 = .ok (.invokevirtual 34, 3) := by decide +kernel
theorem dL_begins_349 : decode cL_begins 349 = .ok (.ldc 48, 2) := by decide +kernel
theorem dL_begins_351 : decode cL_begins 351 = .ok (.invokevirtual 40, 3) := by decide +kernel
theorem dL_begins_354 : decode cL_begins 354 = .ok (.iconst 1, 1) := by decide +kernel
theorem dL_begins_355 : decode cL_begins 355 = .ok (.aload_n 1, 1) := by decide +kernel
theorem dL_begins_356 : decode cL_begins 356 = .ok (.bipush 40, 2) := by decide +kernel
theorem dL_begins_358 : decode cL_begins 358 = .ok (.iload 6, 2) := by decide +kernel
theorem dL_begins_360 : decode cL_begins 360 = .ok (.iadd, 1) := by decide +kernel
theorem dL_begins_361 : decode cL_begins 361 = .ok (.bipush 60, 2) := by decide +kernel
theorem dL_begins_363 : decode cL_begins 363 = .ok (.invokestatic 23, 3) := by decide +kernel
theorem dL_begins_366 : decode cL_begins 366 = .ok (.iadd, 1) := by decide +kernel
theorem dL_begins_367 : decode cL_begins 367 = .ok (.invokevirtual 34, 3) := by decide +kernel
theorem dL_begins_370 : decode cL_begins 370 = .ok (.ldc 54, 2) := by decide +kernel
theorem dL_begins_372 : decode cL_begins 372 = .ok (.invokevirtual 40, 3) := by decide +kernel
theorem dL_begins_375 : decode cL_begins 375 = .ok (.pop, 1) := by decide +kernel
theorem dL_begins_376 : decode cL_begins 376 = .ok (.iinc 6 1, 3) := by decide +kernel
theorem dL_begins_379 : decode cL_begins 379 = .ok (.goto (-97), 3) := by decide +kernel
theorem dL_begins_382 : decode cL_begins 382 = .ok (.aload 5, 2) := by decide +kernel
theorem dL_begins_384 : decode cL_begins 384 = .ok (.ldc 64, 2) := by decide +kernel
theorem dL_begins_386 : decode cL_begins 386 = .ok (.invokevirtual 40, 3) := by decide +kernel
theorem dL_begins_389 : decode cL_begins 389 = .ok (.iconst 3, 1) := by decide +kernel
theorem dL_begins_390 : decode cL_begins 390 = .ok (.aload_n 1, 1) := by decide +kernel
theorem dL_begins_391 : decode cL_begins 391 = .ok (.bipush 45, 2) := by decide +kernel
theorem dL_begins_393 : decode cL_begins 393 = .ok (.bipush 12, 2) := by decide +kernel
theorem dL_begins_395 : decode cL_begins 395 = .ok (.invokestatic 23, 3) := by decide +kernel
theorem dL_begins_398 : decode cL_begins 398 = .ok (.iadd, 1) := by decide +kernel
theorem dL_begins_399 : decode cL_begins 399 = .ok (.invokevirtual 34, 3) := by decide +kernel
theorem dL_begins_402 : decode cL_begins 402 = .ok (.ldc 66, 2) := by decide +kernel
theorem dL_begins_404 : decode cL_begins 404 = .ok (.invokevirtual 40, 3) := by decide +kernel
theorem dL_begins_407 : decode cL_begins 407 = .ok (.pop, 1) := by decide +kernel
theorem dL_begins_408 : decode cL_begins 408 = .ok (.aload 5, 2) := by decide +kernel
theorem dL_begins_410 : decode cL_begins 410 = .ok (.invokevirtual 68, 3) := by decide +kernel
theorem dL_begins_413 : decode cL_begins 413 = .ok (.istore 6, 2) := by decide +kernel
theorem dL_begins_415 : decode cL_begins 415 = .ok (.iconst 0, 1) := by decide +kernel
theorem dL_begins_416 : decode cL_begins 416 = .ok (.istore 7, 2) := by decide +kernel
theorem dL_begins_418 : decode cL_begins 418 = .ok (.iload 7, 2) := by decide +kernel
theorem dL_begins_420 : decode cL_begins 420 = .ok (.iload 6, 2) := by decide +kernel
theorem dL_begins_422 : decode cL_begins 422 = .ok (.if_icmp .ge 98, 3) := by decide +kernel
theorem dL_begins_425 : decode cL_begins 425 = .ok (.iconst 5, 1) := by decide +kernel
theorem dL_begins_426 : decode cL_begins 426 = .ok (.newarray .int, 2) := by decide +kernel
theorem dL_begins_428 : decode cL_begins 428 = .ok (.astore 8, 2) := by decide +kernel
theorem dL_begins_430 : decode cL_begins 430 = .ok (.iconst 0, 1) := by decide +kernel
theorem dL_begins_431 : decode cL_begins 431 = .ok (.istore 9, 2) := by decide +kernel
theorem dL_begins_433 : decode cL_begins 433 = .ok (.iload 9, 2) := by decide +kernel
theorem dL_begins_435 : decode cL_begins 435 = .ok (.bipush 20, 2) := by decide +kernel
theorem dL_begins_437 : decode cL_begins 437 = .ok (.if_icmp .ge 52, 3) := by decide +kernel
theorem dL_begins_440 : decode cL_begins 440 = .ok (.aload 8, 2) := by decide +kernel
theorem dL_begins_442 : decode cL_begins 442 = .ok (.iload 9, 2) := by decide +kernel
theorem dL_begins_444 : decode cL_begins 444 = .ok (.iconst 4, 1) := by decide +kernel
theorem dL_begins_445 : decode cL_begins 445 = .ok (.idiv, 1) := by decide +kernel
theorem dL_begins_446 : decode cL_begins 446 = .ok (.aload 8, 2) := by decide +kernel
theorem dL_begins_448 : decode cL_begins 448 = .ok (.iload 9, 2) := by decide +kernel
theorem dL_begins_450 : decode cL_begins 450 = .ok (.iconst 4, 1) := by decide +kernel
theorem dL_begins_451 : decode cL_begins 451 = .ok (.idiv, 1) := by decide +kernel
theorem dL_begins_452 : decode cL_begins 452 = .ok (.iaload, 1) := by decide +kernel
theorem dL_begins_453 : decode cL_begins 453 = .ok (.bipush 8, 2) := by decide +kernel
theorem dL_begins_455 : decode cL_begins 455 = .ok (.ishl, 1) := by decide +kernel
theorem dL_begins_456 : decode cL_begins 456 = .ok (.iload 7, 2) := by decide +kernel
theorem dL_begins_458 : decode cL_begins 458 = .ok (.iload 9, 2) := by decide +kernel
theorem dL_begins_460 : decode cL_begins 460 = .ok (.iadd, 1) := by decide +kernel
theorem dL_begins_461 : decode cL_begins 461 = .ok (.iload 6, 2) := by decide +kernel
theorem dL_begins_463 : decode cL_begins 463 = .ok (.if_icmp .ge 16, 3) := by decide +kernel
theorem dL_begins_466 : decode cL_begins 466 = .ok (.aload 5, 2) := by decide +kernel
theorem dL_begins_468 : decode cL_begins 468 = .ok (.iload 7, 2) := by decide +kernel
theorem dL_begins_470 : decode cL_begins 470 = .ok (.iload 9, 2) := by decide +kernel
theorem dL_begins_472 : decode cL_begins 472 = .ok (.iadd, 1) := by decide +kernel
theorem dL_begins_473 : decode cL_begins 473 = .ok (.invokevirtual 72, 3) := by decide +kernel
theorem dL_begins_476 : decode cL_begins 476 = .ok (.goto 5, 3) := by decide +kernel
theorem dL_begins_479 : decode cL_begins 479 = .ok (.bipush 32, 2) := by decide +kernel
theorem dL_begins_481 : decode cL_begins 481 = .ok (.ior, 1) := by decide +kernel
theorem dL_begins_482 : decode cL_begins 482 = .ok (.iastore, 1) := by decide +kernel
theorem dL_begins_483 : decode cL_begins 483 = .ok (.iinc 9 1, 3) := by decide +kernel
theorem dL_begins_486 : decode cL_begins 486 = .ok (.goto (-53), 3) := by decide +kernel
theorem dL_begins_489 : decode cL_begins 489 = .ok (.aload_n 0, 1) := by decide +kernel
theorem dL_begins_490 : decode cL_begins 490 = .ok (.aload 8, 2) := by decide +kernel
theorem dL_begins_492 : decode cL_begins 492 = .ok (.iconst 0, 1) := by decide +kernel
theorem dL_begins_493 : decode cL_begins 493 = .ok (.iaload, 1) := by decide +kernel
theorem dL_begins_494 : decode cL_begins 494 = .ok (.aload 8, 2) := by decide +kernel
theorem dL_begins_496 : decode cL_begins 496 = .ok (.iconst 1, 1) := by decide +kernel
theorem dL_begins_497 : decode cL_begins 497 = .ok (.iaload, 1) := by decide +kernel
theorem dL_begins_498 : decode cL_begins 498 = .ok (.aload 8, 2) := by decide +kernel
theorem dL_begins_500 : decode cL_begins 500 = .ok (.iconst 2, 1) := by decide +kernel
theorem dL_begins_501 : decode cL_begins 501 = .ok (.iaload, 1) := by decide +kernel
theorem dL_begins_502 : decode cL_begins 502 = .ok (.aload 8, 2) := by decide +kernel
theorem dL_begins_504 : decode cL_begins 504 = .ok (.iconst 3, 1) := by decide +kernel
theorem dL_begins_505 : decode cL_begins 505 = .ok (.iaload, 1) := by decide +kernel
theorem dL_begins_506 : decode cL_begins 506 = .ok (.aload 8, 2) := by decide +kernel
theorem dL_begins_508 : decode cL_begins 508 = .ok (.iconst 4, 1) := by decide +kernel
theorem dL_begins_509 : decode cL_begins 509 = .ok (.iaload, 1) := by decide +kernel
theorem dL_begins_510 : decode cL_begins 510 = .ok (.invokevirtual 76, 3) := by decide +kernel
theorem dL_begins_513 : decode cL_begins 513 = .ok (.pop, 1) := by decide +kernel
theorem dL_begins_514 : decode cL_begins 514 = .ok (.iinc 7 20, 3) := by decide +kernel
theorem dL_begins_517 : decode cL_begins 517 = .ok (.goto (-99), 3) := by decide +kernel
theorem dL_begins_520 : decode cL_begins 520 = .ok (.aload_n 0, 1) := by decide +kernel
theorem dL_begins_521 : decode cL_begins 521 = .ok (.iload 6, 2) := by decide +kernel
theorem dL_begins_523 : decode cL_begins 523 = .ok (.invokevirtual 81, 3) := by decide +kernel
theorem dL_begins_526 : decode cL_begins 526 = .ok (.iload_n 3, 1) := by decide +kernel
theorem dL_begins_527 : decode cL_begins 527 = .ok (.if_icmp .ne 7, 3) := by decide +kernel
theorem dL_begins_530 : decode cL_begins 530 = .ok (.iconst 1, 1) := by decide +kernel
theorem dL_begins_531 : decode cL_begins 531 = .ok (.goto 4, 3) := by decide +kernel
theorem dL_begins_534 : decode cL_begins 534 = .ok (.iconst 0, 1) := by decide +kernel
theorem dL_begins_535 : decode cL_begins 535 = .ok (.ireturn, 1) := by decide +kernel
theorem dL_acts_0 : decode cL_acts 0 = .ok (.aload_n 1, 1) := by decide +kernel
theorem dL_acts_1 : decode cL_acts 1 = .ok (.iload_n 2, 1) := by decide +kernel
theorem dL_acts_2 : decode cL_acts 2 = .ok (.aload_n 0, 1) := by decide +kernel
theorem dL_acts_3 : decode cL_acts 3 = .ok (.iconst 1, 1) := by decide +kernel
theorem dL_acts_4 : decode cL_acts 4 = .ok (.invokevirtual 85, 3) := by decide +kernel
theorem dL_acts_7 : decode cL_acts 7 = .ok (.invokestatic 23, 3) := by decide +kernel
theorem dL_acts_10 : decode cL_acts 10 = .ok (.istore_n 3, 1) := by decide +kernel
theorem dL_acts_11 : decode cL_acts 11 = .ok (.aload_n 1, 1) := by decide +kernel
theorem dL_acts_12 : decode cL_acts 12 = .ok (.iload_n 2, 1) := by decide +kernel
theorem dL_acts_13 : decode cL_acts 13 = .ok (.iconst 1, 1) := by decide +kernel
theorem dL_acts_14 : decode cL_acts 14 = .ok (.iadd, 1) := by decide +kernel
theorem dL_acts_15 : decode cL_acts 15 = .ok (.bipush 6, 2) := by decide +kernel
theorem dL_acts_17 : decode cL_acts 17 = .ok (.invokestatic 23, 3) := by decide +kernel
theorem dL_acts_20 : decode cL_acts 20 = .ok (.istore 4, 2) := by decide +kernel
theorem dL_acts_22 : decode cL_acts 22 = .ok (.aload_n 0, 1) := by decide +kernel
theorem dL_acts_23 : decode cL_acts 23 = .ok (.iload_n 3, 1) := by decide +kernel
theorem dL_acts_24 : decode cL_acts 24 = .ok (.iconst 0, 1) := by decide +kernel
theorem dL_acts_25 : decode cL_acts 25 = .ok (.invokevirtual 88, 3) := by decide +kernel
theorem dL_acts_28 : decode cL_acts 28 = .ok (.iconst (-1), 1) := by decide +kernel
theorem dL_acts_29 : decode cL_acts 29 = .ok (.if_icmp .eq 7, 3) := by decide +kernel
theorem dL_acts_32 : decode cL_acts 32 = .ok (.iconst 1, 1) := by decide +kernel
theorem dL_acts_33 : decode cL_acts 33 = .ok (.goto 4, 3) := by decide +kernel
theorem dL_acts_36 : decode cL_acts 36 = .ok (.iconst 0, 1) := by decide +kernel
theorem dL_acts_37 : decode cL_acts 37 = .ok (.istore 5, 2) := by decide +kernel
theorem dL_acts_39 : decode cL_acts 39 = .ok (.iload 4, 2) := by decide +kernel
theorem dL_acts_41 : decode cL_acts 41 = .ok (.iconst 3, 1) := by decide +kernel
theorem dL_acts_42 : decode cL_acts 42 = .ok (.if_icmp .ge 30, 3) := by decide +kernel
theorem dL_acts_45 : decode cL_acts 45 = .ok (.iload 5, 2) := by decide +kernel
theorem dL_acts_47 : decode cL_acts 47 = .ok (.ifCond .eq 25, 3) := by decide +kernel
theorem dL_acts_50 : decode cL_acts 50 = .ok (.aload_n 0, 1) := by decide +kernel
theorem dL_acts_51 : decode cL_acts 51 = .ok (.iload_n 3, 1) := by decide +kernel
theorem dL_acts_52 : decode cL_acts 52 = .ok (.aload_n 1, 1) := by decide +kernel
theorem dL_acts_53 : decode cL_acts 53 = .ok (.iload_n 2, 1) := by decide +kernel
theorem dL_acts_54 : decode cL_acts 54 = .ok (.iconst 2, 1) := by decide +kernel
theorem dL_acts_55 : decode cL_acts 55 = .ok (.iadd, 1) := by decide +kernel
theorem dL_acts_56 : decode cL_acts 56 = .ok (.iconst 4, 1) := by decide +kernel
theorem dL_acts_57 : decode cL_acts 57 = .ok (.invokestatic 23, 3) := by decide +kernel
theorem dL_acts_60 : decode cL_acts 60 = .ok (.invokevirtual 92, 3) := by decide +kernel
theorem dL_acts_63 : decode cL_acts 63 = .ok (.ifCond .lt 7, 3) := by decide +kernel
theorem dL_acts_66 : decode cL_acts 66 = .ok (.iconst 1, 1) := by decide +kernel
theorem dL_acts_67 : decode cL_acts 67 = .ok (.goto 4, 3) := by decide +kernel
theorem dL_acts_70 : decode cL_acts 70 = .ok (.iconst 0, 1) := by decide +kernel
theorem dL_acts_71 : decode cL_acts 71 = .ok (.ireturn, 1) := by decide +kernel
theorem dL_acts_72 : decode cL_acts 72 = .ok (.iload 4, 2) := by decide +kernel
theorem dL_acts_74 : decode cL_acts 74 = .ok (.iconst 3, 1) := by decide +kernel
theorem dL_acts_75 : decode cL_acts 75 = .ok (.if_icmp .ne 23, 3) := by decide +kernel
theorem dL_acts_78 : decode cL_acts 78 = .ok (.iload 5, 2) := by decide +kernel
theorem dL_acts_80 : decode cL_acts 80 = .ok (.ifCond .ne 18, 3) := by decide +kernel
theorem dL_acts_83 : decode cL_acts 83 = .ok (.aload_n 0, 1) := by decide +kernel
theorem dL_acts_84 : decode cL_acts 84 = .ok (.iload_n 3, 1) := by decide +kernel
theorem dL_acts_85 : decode cL_acts 85 = .ok (.iload_n 3, 1) := by decide +kernel
theorem dL_acts_86 : decode cL_acts 86 = .ok (.invokevirtual 95, 3) := by decide +kernel
theorem dL_acts_89 : decode cL_acts 89 = .ok (.ifCond .lt 7, 3) := by decide +kernel
theorem dL_acts_92 : decode cL_acts 92 = .ok (.iconst 1, 1) := by decide +kernel
theorem dL_acts_93 : decode cL_acts 93 = .ok (.goto 4, 3) := by decide +kernel
theorem dL_acts_96 : decode cL_acts 96 = .ok (.iconst 0, 1) := by decide +kernel
theorem dL_acts_97 : decode cL_acts 97 = .ok (.ireturn, 1) := by decide +kernel
theorem dL_acts_98 : decode cL_acts 98 = .ok (.iload 4, 2) := by decide +kernel
theorem dL_acts_100 : decode cL_acts 100 = .ok (.iconst 4, 1) := by decide +kernel
theorem dL_acts_101 : decode cL_acts 101 = .ok (.if_icmp .ne 27, 3) := by decide +kernel
theorem dL_acts_104 : decode cL_acts 104 = .ok (.aload_n 0, 1) := by decide +kernel
theorem dL_acts_105 : decode cL_acts 105 = .ok (.iload_n 3, 1) := by decide +kernel
theorem dL_acts_106 : decode cL_acts 106 = .ok (.iconst 2, 1) := by decide +kernel
theorem dL_acts_107 : decode cL_acts 107 = .ok (.invokevirtual 88, 3) := by decide +kernel
theorem dL_acts_110 : decode cL_acts 110 = .ok (.iconst 1, 1) := by decide +kernel
theorem dL_acts_111 : decode cL_acts 111 = .ok (.if_icmp .ne 17, 3) := by decide +kernel
theorem dL_acts_114 : decode cL_acts 114 = .ok (.aload_n 0, 1) := by decide +kernel
theorem dL_acts_115 : decode cL_acts 115 = .ok (.iload_n 3, 1) := by decide +kernel
theorem dL_acts_116 : decode cL_acts 116 = .ok (.invokevirtual 98, 3) := by decide +kernel
theorem dL_acts_119 : decode cL_acts 119 = .ok (.ifCond .lt 7, 3) := by decide +kernel
theorem dL_acts_122 : decode cL_acts 122 = .ok (.iconst 1, 1) := by decide +kernel
theorem dL_acts_123 : decode cL_acts 123 = .ok (.goto 4, 3) := by decide +kernel
theorem dL_acts_126 : decode cL_acts 126 = .ok (.iconst 0, 1) := by decide +kernel
theorem dL_acts_127 : decode cL_acts 127 = .ok (.ireturn, 1) := by decide +kernel
theorem dL_acts_128 : decode cL_acts 128 = .ok (.aload_n 0, 1) := by decide +kernel
theorem dL_acts_129 : decode cL_acts 129 = .ok (.iconst 1, 1) := by decide +kernel
theorem dL_acts_130 : decode cL_acts 130 = .ok (.aload_n 1, 1) := by decide +kernel
theorem dL_acts_131 : decode cL_acts 131 = .ok (.iload_n 2, 1) := by decide +kernel
theorem dL_acts_132 : decode cL_acts 132 = .ok (.iconst 3, 1) := by decide +kernel
theorem dL_acts_133 : decode cL_acts 133 = .ok (.iadd, 1) := by decide +kernel
theorem dL_acts_134 : decode cL_acts 134 = .ok (.bipush 7, 2) := by decide +kernel
theorem dL_acts_136 : decode cL_acts 136 = .ok (.invokestatic 23, 3) := by decide +kernel
theorem dL_acts_139 : decode cL_acts 139 = .ok (.iadd, 1) := by decide +kernel
theorem dL_acts_140 : decode cL_acts 140 = .ok (.invokevirtual 101, 3) := by decide +kernel
theorem dL_acts_143 : decode cL_acts 143 = .ok (.ifCond .lt 7, 3) := by decide +kernel
theorem dL_acts_146 : decode cL_acts 146 = .ok (.iconst 1, 1) := by decide +kernel
theorem dL_acts_147 : decode cL_acts 147 = .ok (.goto 4, 3) := by decide +kernel
theorem dL_acts_150 : decode cL_acts 150 = .ok (.iconst 0, 1) := by decide +kernel
theorem dL_acts_151 : decode cL_acts 151 = .ok (.ireturn, 1) := by decide +kernel
theorem dL_law_0 : decode cL_law 0 = .ok (.new 77, 3) := by decide +kernel
theorem dL_law_3 : decode cL_law 3 = .ok (.dup, 1) := by decide +kernel
theorem dL_law_4 : decode cL_law 4 = .ok (.invokespecial 104, 3) := by decide +kernel
theorem dL_law_7 : decode cL_law 7 = .ok (.astore_n 1, 1) := by decide +kernel
theorem dL_law_8 : decode cL_law 8 = .ok (.aload_n 1, 1) := by decide +kernel
theorem dL_law_9 : decode cL_law 9 = .ok (.iconst 1, 1) := by decide +kernel
theorem dL_law_10 : decode cL_law 10 = .ok (.invokevirtual 85, 3) := by decide +kernel
theorem dL_law_13 : decode cL_law 13 = .ok (.ifCond .ne 27, 3) := by decide +kernel
theorem dL_law_16 : decode cL_law 16 = .ok (.aload_n 1, 1) := by decide +kernel
theorem dL_law_17 : decode cL_law 17 = .ok (.invokevirtual 105, 3) := by decide +kernel
theorem dL_law_20 : decode cL_law 20 = .ok (.iconst (-1), 1) := by decide +kernel
theorem dL_law_21 : decode cL_law 21 = .ok (.if_icmp .ne 19, 3) := by decide +kernel
theorem dL_law_24 : decode cL_law 24 = .ok (.aload_n 1, 1) := by decide +kernel
theorem dL_law_25 : decode cL_law 25 = .ok (.invokevirtual 108, 3) := by decide +kernel
theorem dL_law_28 : decode cL_law 28 = .ok (.iconst (-1), 1) := by decide +kernel
theorem dL_law_29 : decode cL_law 29 = .ok (.if_icmp .ne 11, 3) := by decide +kernel
theorem dL_law_32 : decode cL_law 32 = .ok (.aload_n 1, 1) := by decide +kernel
theorem dL_law_33 : decode cL_law 33 = .ok (.aload_n 0, 1) := by decide +kernel
theorem dL_law_34 : decode cL_law 34 = .ok (.invokestatic 111, 3) := by decide +kernel
theorem dL_law_37 : decode cL_law 37 = .ok (.ifCond .ne 5, 3) := by decide +kernel
theorem dL_law_40 : decode cL_law 40 = .ok (.iconst 0, 1) := by decide +kernel
theorem dL_law_41 : decode cL_law 41 = .ok (.ireturn, 1) := by decide +kernel
theorem dL_law_42 : decode cL_law 42 = .ok (.iconst 0, 1) := by decide +kernel
theorem dL_law_43 : decode cL_law 43 = .ok (.istore_n 2, 1) := by decide +kernel
theorem dL_law_44 : decode cL_law 44 = .ok (.iload_n 2, 1) := by decide +kernel
theorem dL_law_45 : decode cL_law 45 = .ok (.bipush 9, 2) := by decide +kernel
theorem dL_law_47 : decode cL_law 47 = .ok (.if_icmp .ge 105, 3) := by decide +kernel
theorem dL_law_50 : decode cL_law 50 = .ok (.aload_n 1, 1) := by decide +kernel
theorem dL_law_51 : decode cL_law 51 = .ok (.aload_n 0, 1) := by decide +kernel
theorem dL_law_52 : decode cL_law 52 = .ok (.bipush 50, 2) := by decide +kernel
theorem dL_law_54 : decode cL_law 54 = .ok (.iconst 4, 1) := by decide +kernel
theorem dL_law_55 : decode cL_law 55 = .ok (.iload_n 2, 1) := by decide +kernel
theorem dL_law_56 : decode cL_law 56 = .ok (.imul, 1) := by decide +kernel
theorem dL_law_57 : decode cL_law 57 = .ok (.iadd, 1) := by decide +kernel
theorem dL_law_58 : decode cL_law 58 = .ok (.invokestatic 115, 3) := by decide +kernel
theorem dL_law_61 : decode cL_law 61 = .ok (.istore_n 3, 1) := by decide +kernel
theorem dL_law_62 : decode cL_law 62 = .ok (.iload_n 3, 1) := by decide +kernel
theorem dL_law_63 : decode cL_law 63 = .ok (.ifCond .eq 10, 3) := by decide +kernel
theorem dL_law_66 : decode cL_law 66 = .ok (.aload_n 1, 1) := by decide +kernel
theorem dL_law_67 : decode cL_law 67 = .ok (.invokestatic 119, 3) := by decide +kernel
theorem dL_law_70 : decode cL_law 70 = .ok (.ifCond .ne 5, 3) := by decide +kernel
theorem dL_law_73 : decode cL_law 73 = .ok (.iconst 0, 1) := by decide +kernel
theorem dL_law_74 : decode cL_law 74 = .ok (.ireturn, 1) := by decide +kernel
theorem dL_law_75 : decode cL_law 75 = .ok (.aload_n 0, 1) := by decide +kernel
theorem dL_law_76 : decode cL_law 76 = .ok (.bipush 90, 2) := by decide +kernel
theorem dL_law_78 : decode cL_law 78 = .ok (.iload_n 2, 1) := by decide +kernel
theorem dL_law_79 : decode cL_law 79 = .ok (.iadd, 1) := by decide +kernel
theorem dL_law_80 : decode cL_law 80 = .ok (.aload_n 1, 1) := by decide +kernel
theorem dL_law_81 : decode cL_law 81 = .ok (.iconst 1, 1) := by decide +kernel
theorem dL_law_82 : decode cL_law 82 = .ok (.invokevirtual 85, 3) := by decide +kernel
theorem dL_law_85 : decode cL_law 85 = .ok (.invokestatic 23, 3) := by decide +kernel
theorem dL_law_88 : decode cL_law 88 = .ok (.istore 4, 2) := by decide +kernel
theorem dL_law_90 : decode cL_law 90 = .ok (.aload_n 1, 1) := by decide +kernel
theorem dL_law_91 : decode cL_law 91 = .ok (.iload 4, 2) := by decide +kernel
theorem dL_law_93 : decode cL_law 93 = .ok (.iconst 0, 1) := by decide +kernel
theorem dL_law_94 : decode cL_law 94 = .ok (.invokevirtual 88, 3) := by decide +kernel
theorem dL_law_97 : decode cL_law 97 = .ok (.iconst (-1), 1) := by decide +kernel
theorem dL_law_98 : decode cL_law 98 = .ok (.if_icmp .ne 6, 3) := by decide +kernel
theorem dL_law_101 : decode cL_law 101 = .ok (.goto 45, 3) := by decide +kernel
theorem dL_law_104 : decode cL_law 104 = .ok (.aload_n 1, 1) := by decide +kernel
theorem dL_law_105 : decode cL_law 105 = .ok (.iconst 0, 1) := by decide +kernel
theorem dL_law_106 : decode cL_law 106 = .ok (.invokevirtual 123, 3) := by decide +kernel
theorem dL_law_109 : decode cL_law 109 = .ok (.pop, 1) := by decide +kernel
theorem dL_law_110 : decode cL_law 110 = .ok (.aload_n 1, 1) := by decide +kernel
theorem dL_law_111 : decode cL_law 111 = .ok (.iload 4, 2) := by decide +kernel
theorem dL_law_113 : decode cL_law 113 = .ok (.invokestatic 127, 3) := by decide +kernel
theorem dL_law_116 : decode cL_law 116 = .ok (.ifCond .eq 28, 3) := by decide +kernel
theorem dL_law_119 : decode cL_law 119 = .ok (.aload_n 1, 1) := by decide +kernel
theorem dL_law_120 : decode cL_law 120 = .ok (.iconst 0, 1) := by decide +kernel
theorem dL_law_121 : decode cL_law 121 = .ok (.invokevirtual 131, 3) := by decide +kernel
theorem dL_law_124 : decode cL_law 124 = .ok (.ifCond .eq 20, 3) := by decide +kernel
theorem dL_law_127 : decode cL_law 127 = .ok (.aload_n 1, 1) := by decide +kernel
theorem dL_law_128 : decode cL_law 128 = .ok (.iload 4, 2) := by decide +kernel
theorem dL_law_130 : decode cL_law 130 = .ok (.invokestatic 134, 3) := by decide +kernel
theorem dL_law_133 : decode cL_law 133 = .ok (.ifCond .eq 11, 3) := by decide +kernel
theorem dL_law_136 : decode cL_law 136 = .ok (.aload_n 1, 1) := by decide +kernel
theorem dL_law_137 : decode cL_law 137 = .ok (.iconst 0, 1) := by decide +kernel
theorem dL_law_138 : decode cL_law 138 = .ok (.invokevirtual 131, 3) := by decide +kernel
theorem dL_law_141 : decode cL_law 141 = .ok (.ifCond .ne 5, 3) := by decide +kernel
theorem dL_law_144 : decode cL_law 144 = .ok (.iconst 0, 1) := by decide +kernel
theorem dL_law_145 : decode cL_law 145 = .ok (.ireturn, 1) := by decide +kernel
theorem dL_law_146 : decode cL_law 146 = .ok (.iinc 2 1, 3) := by decide +kernel
theorem dL_law_149 : decode cL_law 149 = .ok (.goto (-105), 3) := by decide +kernel
theorem dL_law_152 : decode cL_law 152 = .ok (.aload_n 1, 1) := by decide +kernel
theorem dL_law_153 : decode cL_law 153 = .ok (.invokestatic 137, 3) := by decide +kernel
theorem dL_law_156 : decode cL_law 156 = .ok (.ireturn, 1) := by decide +kernel
theorem dL_isWithin_0 : decode cL_isWithin 0 = .ok (.iconst 0, 1) := by decide +kernel
theorem dL_isWithin_1 : decode cL_isWithin 1 = .ok (.istore_n 1, 1) := by decide +kernel
theorem dL_isWithin_2 : decode cL_isWithin 2 = .ok (.iconst 0, 1) := by decide +kernel
theorem dL_isWithin_3 : decode cL_isWithin 3 = .ok (.istore_n 2, 1) := by decide +kernel
theorem dL_isWithin_4 : decode cL_isWithin 4 = .ok (.iconst 0, 1) := by decide +kernel
theorem dL_isWithin_5 : decode cL_isWithin 5 = .ok (.istore_n 3, 1) := by decide +kernel
theorem dL_isWithin_6 : decode cL_isWithin 6 = .ok (.iload_n 3, 1) := by decide +kernel
theorem dL_isWithin_7 : decode cL_isWithin 7 = .ok (.aload_n 0, 1) := by decide +kernel
theorem dL_isWithin_8 : decode cL_isWithin 8 = .ok (.iconst 1, 1) := by decide +kernel
theorem dL_isWithin_9 : decode cL_isWithin 9 = .ok (.invokevirtual 85, 3) := by decide +kernel
theorem dL_isWithin_12 : decode cL_isWithin 12 = .ok (.if_icmp .ge 63, 3) := by decide +kernel
theorem dL_isWithin_15 : decode cL_isWithin 15 = .ok (.iload_n 2, 1) := by decide +kernel
theorem dL_isWithin_16 : decode cL_isWithin 16 = .ok (.aload_n 0, 1) := by decide +kernel
theorem dL_isWithin_17 : decode cL_isWithin 17 = .ok (.iload_n 3, 1) := by decide +kernel
theorem dL_isWithin_18 : decode cL_isWithin 18 = .ok (.bipush 6, 2) := by decide +kernel
theorem dL_isWithin_20 : decode cL_isWithin 20 = .ok (.invokevirtual 88, 3) := by decide +kernel
theorem dL_isWithin_23 : decode cL_isWithin 23 = .ok (.iand, 1) := by decide +kernel
theorem dL_isWithin_24 : decode cL_isWithin 24 = .ok (.ifCond .ne 23, 3) := by decide +kernel
theorem dL_isWithin_27 : decode cL_isWithin 27 = .ok (.aload_n 0, 1) := by decide +kernel
theorem dL_isWithin_28 : decode cL_isWithin 28 = .ok (.iload_n 3, 1) := by decide +kernel
theorem dL_isWithin_29 : decode cL_isWithin 29 = .ok (.iconst 0, 1) := by decide +kernel
theorem dL_isWithin_30 : decode cL_isWithin 30 = .ok (.invokevirtual 88, 3) := by decide +kernel
theorem dL_isWithin_33 : decode cL_isWithin 33 = .ok (.iconst (-1), 1) := by decide +kernel
theorem dL_isWithin_34 : decode cL_isWithin 34 = .ok (.if_icmp .ne 15, 3) := by decide +kernel
theorem dL_isWithin_37 : decode cL_isWithin 37 = .ok (.aload_n 0, 1) := by decide +kernel
theorem dL_isWithin_38 : decode cL_isWithin 38 = .ok (.iload_n 3, 1) := by decide +kernel
theorem dL_isWithin_39 : decode cL_isWithin 39 = .ok (.bipush 6, 2) := by decide +kernel
theorem dL_isWithin_41 : decode cL_isWithin 41 = .ok (.invokevirtual 88, 3) := by decide +kernel
theorem dL_isWithin_44 : decode cL_isWithin 44 = .ok (.ifCond .eq 5, 3) := by decide +kernel
theorem dL_isWithin_47 : decode cL_isWithin 47 = .ok (.iconst 0, 1) := by decide +kernel
theorem dL_isWithin_48 : decode cL_isWithin 48 = .ok (.ireturn, 1) := by decide +kernel
theorem dL_isWithin_49 : decode cL_isWithin 49 = .ok (.iload_n 2, 1) := by decide +kernel
theorem dL_isWithin_50 : decode cL_isWithin 50 = .ok (.aload_n 0, 1) := by decide +kernel
theorem dL_isWithin_51 : decode cL_isWithin 51 = .ok (.iload_n 3, 1) := by decide +kernel
theorem dL_isWithin_52 : decode cL_isWithin 52 = .ok (.bipush 6, 2) := by decide +kernel
theorem dL_isWithin_54 : decode cL_isWithin 54 = .ok (.invokevirtual 88, 3) := by decide +kernel
theorem dL_isWithin_57 : decode cL_isWithin 57 = .ok (.ior, 1) := by decide +kernel
theorem dL_isWithin_58 : decode cL_isWithin 58 = .ok (.istore_n 2, 1) := by decide +kernel
theorem dL_isWithin_59 : decode cL_isWithin 59 = .ok (.iload_n 1, 1) := by decide +kernel
theorem dL_isWithin_60 : decode cL_isWithin 60 = .ok (.aload_n 0, 1) := by decide +kernel
theorem dL_isWithin_61 : decode cL_isWithin 61 = .ok (.iload_n 3, 1) := by decide +kernel
theorem dL_isWithin_62 : decode cL_isWithin 62 = .ok (.bipush 7, 2) := by decide +kernel
theorem dL_isWithin_64 : decode cL_isWithin 64 = .ok (.invokevirtual 88, 3) := by decide +kernel
theorem dL_isWithin_67 : decode cL_isWithin 67 = .ok (.iadd, 1) := by decide +kernel
theorem dL_isWithin_68 : decode cL_isWithin 68 = .ok (.istore_n 1, 1) := by decide +kernel
theorem dL_isWithin_69 : decode cL_isWithin 69 = .ok (.iinc 3 1, 3) := by decide +kernel
theorem dL_isWithin_72 : decode cL_isWithin 72 = .ok (.goto (-66), 3) := by decide +kernel
theorem dL_isWithin_75 : decode cL_isWithin 75 = .ok (.iconst 0, 1) := by decide +kernel
theorem dL_isWithin_76 : decode cL_isWithin 76 = .ok (.istore_n 3, 1) := by decide +kernel
theorem dL_isWithin_77 : decode cL_isWithin 77 = .ok (.iload_n 3, 1) := by decide +kernel
theorem dL_isWithin_78 : decode cL_isWithin 78 = .ok (.aload_n 0, 1) := by decide +kernel
theorem dL_isWithin_79 : decode cL_isWithin 79 = .ok (.iconst 2, 1) := by decide +kernel
theorem dL_isWithin_80 : decode cL_isWithin 80 = .ok (.invokevirtual 85, 3) := by decide +kernel
theorem dL_isWithin_83 : decode cL_isWithin 83 = .ok (.if_icmp .ge 57, 3) := by decide +kernel
theorem dL_isWithin_86 : decode cL_isWithin 86 = .ok (.aload_n 0, 1) := by decide +kernel
theorem dL_isWithin_87 : decode cL_isWithin 87 = .ok (.iload_n 3, 1) := by decide +kernel
theorem dL_isWithin_88 : decode cL_isWithin 88 = .ok (.iconst 0, 1) := by decide +kernel
theorem dL_isWithin_89 : decode cL_isWithin 89 = .ok (.invokevirtual 140, 3) := by decide +kernel
theorem dL_isWithin_92 : decode cL_isWithin 92 = .ok (.ifCond .le 7, 3) := by decide +kernel
theorem dL_isWithin_95 : decode cL_isWithin 95 = .ok (.iconst 1, 1) := by decide +kernel
theorem dL_isWithin_96 : decode cL_isWithin 96 = .ok (.goto 4, 3) := by decide +kernel
theorem dL_isWithin_99 : decode cL_isWithin 99 = .ok (.iconst 0, 1) := by decide +kernel
theorem dL_isWithin_100 : decode cL_isWithin 100 = .ok (.iload_n 2, 1) := by decide +kernel
theorem dL_isWithin_101 : decode cL_isWithin 101 = .ok (.iload_n 3, 1) := by decide +kernel
theorem dL_isWithin_102 : decode cL_isWithin 102 = .ok (.ishr, 1) := by decide +kernel
theorem dL_isWithin_103 : decode cL_isWithin 103 = .ok (.iconst 1, 1) := by decide +kernel
theorem dL_isWithin_104 : decode cL_isWithin 104 = .ok (.iand, 1) := by decide +kernel
theorem dL_isWithin_105 : decode cL_isWithin 105 = .ok (.iconst 1, 1) := by decide +kernel
theorem dL_isWithin_106 : decode cL_isWithin 106 = .ok (.if_icmp .ne 7, 3) := by decide +kernel
theorem dL_isWithin_109 : decode cL_isWithin 109 = .ok (.iconst 1, 1) := by decide +kernel
theorem dL_isWithin_110 : decode cL_isWithin 110 = .ok (.goto 4, 3) := by decide +kernel
theorem dL_isWithin_113 : decode cL_isWithin 113 = .ok (.iconst 0, 1) := by decide +kernel
theorem dL_isWithin_114 : decode cL_isWithin 114 = .ok (.if_icmp .ne 18, 3) := by decide +kernel
theorem dL_isWithin_117 : decode cL_isWithin 117 = .ok (.aload_n 0, 1) := by decide +kernel
theorem dL_isWithin_118 : decode cL_isWithin 118 = .ok (.iload_n 3, 1) := by decide +kernel
theorem dL_isWithin_119 : decode cL_isWithin 119 = .ok (.iconst 5, 1) := by decide +kernel
theorem dL_isWithin_120 : decode cL_isWithin 120 = .ok (.invokevirtual 140, 3) := by decide +kernel
theorem dL_isWithin_123 : decode cL_isWithin 123 = .ok (.aload_n 0, 1) := by decide +kernel
theorem dL_isWithin_124 : decode cL_isWithin 124 = .ok (.iload_n 3, 1) := by decide +kernel
theorem dL_isWithin_125 : decode cL_isWithin 125 = .ok (.iconst 4, 1) := by decide +kernel
theorem dL_isWithin_126 : decode cL_isWithin 126 = .ok (.invokevirtual 140, 3) := by decide +kernel
theorem dL_isWithin_129 : decode cL_isWithin 129 = .ok (.if_icmp .lt 5, 3) := by decide +kernel
theorem dL_isWithin_132 : decode cL_isWithin 132 = .ok (.iconst 0, 1) := by decide +kernel
theorem dL_isWithin_133 : decode cL_isWithin 133 = .ok (.ireturn, 1) := by decide +kernel
theorem dL_isWithin_134 : decode cL_isWithin 134 = .ok (.iinc 3 1, 3) := by decide +kernel
theorem dL_isWithin_137 : decode cL_isWithin 137 = .ok (.goto (-60), 3) := by decide +kernel
theorem dL_isWithin_140 : decode cL_isWithin 140 = .ok (.iload_n 1, 1) := by decide +kernel
theorem dL_isWithin_141 : decode cL_isWithin 141 = .ok (.aload_n 0, 1) := by decide +kernel
theorem dL_isWithin_142 : decode cL_isWithin 142 = .ok (.bipush 6, 2) := by decide +kernel
theorem dL_isWithin_144 : decode cL_isWithin 144 = .ok (.invokevirtual 85, 3) := by decide +kernel
theorem dL_isWithin_147 : decode cL_isWithin 147 = .ok (.if_icmp .ne 16, 3) := by decide +kernel
theorem dL_isWithin_150 : decode cL_isWithin 150 = .ok (.iload_n 1, 1) := by decide +kernel
theorem dL_isWithin_151 : decode cL_isWithin 151 = .ok (.aload_n 0, 1) := by decide +kernel
theorem dL_isWithin_152 : decode cL_isWithin 152 = .ok (.iconst 3, 1) := by decide +kernel
theorem dL_isWithin_153 : decode cL_isWithin 153 = .ok (.invokevirtual 85, 3) := by decide +kernel
theorem dL_isWithin_156 : decode cL_isWithin 156 = .ok (.if_icmp .gt 7, 3) := by decide +kernel
theorem dL_isWithin_159 : decode cL_isWithin 159 = .ok (.iconst 1, 1) := by decide +kernel
theorem dL_isWithin_160 : decode cL_isWithin 160 = .ok (.goto 4, 3) := by decide +kernel
theorem dL_isWithin_163 : decode cL_isWithin 163 = .ok (.iconst 0, 1) := by decide +kernel
theorem dL_isWithin_164 : decode cL_isWithin 164 = .ok (.ireturn, 1) := by decide +kernel
theorem dL_isForeseen_0 : decode cL_isForeseen 0 = .ok (.aload_n 0, 1) := by decide +kernel
theorem dL_isForeseen_1 : decode cL_isForeseen 1 = .ok (.iload_n 1, 1) := by decide +kernel
theorem dL_isForeseen_2 : decode cL_isForeseen 2 = .ok (.iconst 2, 1) := by decide +kernel
theorem dL_isForeseen_3 : decode cL_isForeseen 3 = .ok (.invokevirtual 88, 3) := by decide +kernel
theorem dL_isForeseen_6 : decode cL_isForeseen 6 = .ok (.iconst 1, 1) := by decide +kernel
theorem dL_isForeseen_7 : decode cL_isForeseen 7 = .ok (.if_icmp .ne 9, 3) := by decide +kernel
theorem dL_isForeseen_10 : decode cL_isForeseen 10 = .ok (.aload_n 0, 1) := by decide +kernel
theorem dL_isForeseen_11 : decode cL_isForeseen 11 = .ok (.iload_n 1, 1) := by decide +kernel
theorem dL_isForeseen_12 : decode cL_isForeseen 12 = .ok (.invokevirtual 98, 3) := by decide +kernel
theorem dL_isForeseen_15 : decode cL_isForeseen 15 = .ok (.pop, 1) := by decide +kernel
theorem dL_isForeseen_16 : decode cL_isForeseen 16 = .ok (.aload_n 0, 1) := by decide +kernel
theorem dL_isForeseen_17 : decode cL_isForeseen 17 = .ok (.iload_n 1, 1) := by decide +kernel
theorem dL_isForeseen_18 : decode cL_isForeseen 18 = .ok (.invokevirtual 143, 3) := by decide +kernel
theorem dL_isForeseen_21 : decode cL_isForeseen 21 = .ok (.istore_n 2, 1) := by decide +kernel
theorem dL_isForeseen_22 : decode cL_isForeseen 22 = .ok (.aload_n 0, 1) := by decide +kernel
theorem dL_isForeseen_23 : decode cL_isForeseen 23 = .ok (.iconst 2, 1) := by decide +kernel
theorem dL_isForeseen_24 : decode cL_isForeseen 24 = .ok (.invokevirtual 146, 3) := by decide +kernel
theorem dL_isForeseen_27 : decode cL_isForeseen 27 = .ok (.i2l, 1) := by decide +kernel
theorem dL_isForeseen_28 : decode cL_isForeseen 28 = .ok (.lstore_n 3, 1) := by decide +kernel
theorem dL_isForeseen_29 : decode cL_isForeseen 29 = .ok (.aload_n 0, 1) := by decide +kernel
theorem dL_isForeseen_30 : decode cL_isForeseen 30 = .ok (.iload_n 1, 1) := by decide +kernel
theorem dL_isForeseen_31 : decode cL_isForeseen 31 = .ok (.invokevirtual 149, 3) := by decide +kernel
theorem dL_isForeseen_34 : decode cL_isForeseen 34 = .ok (.iload_n 2, 1) := by decide +kernel
theorem dL_isForeseen_35 : decode cL_isForeseen 35 = .ok (.if_icmp .ne 13, 3) := by decide +kernel
theorem dL_isForeseen_38 : decode cL_isForeseen 38 = .ok (.aload_n 0, 1) := by decide +kernel
theorem dL_isForeseen_39 : decode cL_isForeseen 39 = .ok (.iload_n 1, 1) := by decide +kernel
theorem dL_isForeseen_40 : decode cL_isForeseen 40 = .ok (.iconst 2, 1) := by decide +kernel
theorem dL_isForeseen_41 : decode cL_isForeseen 41 = .ok (.invokevirtual 88, 3) := by decide +kernel
theorem dL_isForeseen_44 : decode cL_isForeseen 44 = .ok (.iconst 1, 1) := by decide +kernel
theorem dL_isForeseen_45 : decode cL_isForeseen 45 = .ok (.if_icmp .eq 5, 3) := by decide +kernel
theorem dL_isForeseen_48 : decode cL_isForeseen 48 = .ok (.iconst 0, 1) := by decide +kernel
theorem dL_isForeseen_49 : decode cL_isForeseen 49 = .ok (.ireturn, 1) := by decide +kernel
theorem dL_isForeseen_50 : decode cL_isForeseen 50 = .ok (.iload_n 2, 1) := by decide +kernel
theorem dL_isForeseen_51 : decode cL_isForeseen 51 = .ok (.ifCond .le 9, 3) := by decide +kernel
theorem dL_isForeseen_54 : decode cL_isForeseen 54 = .ok (.aload_n 0, 1) := by decide +kernel
theorem dL_isForeseen_55 : decode cL_isForeseen 55 = .ok (.iload_n 2, 1) := by decide +kernel
theorem dL_isForeseen_56 : decode cL_isForeseen 56 = .ok (.invokevirtual 101, 3) := by decide +kernel
theorem dL_isForeseen_59 : decode cL_isForeseen 59 = .ok (.pop, 1) := by decide +kernel
theorem dL_isForeseen_60 : decode cL_isForeseen 60 = .ok (.aload_n 0, 1) := by decide +kernel
theorem dL_isForeseen_61 : decode cL_isForeseen 61 = .ok (.iload_n 1, 1) := by decide +kernel
theorem dL_isForeseen_62 : decode cL_isForeseen 62 = .ok (.bipush 6, 2) := by decide +kernel
theorem dL_isForeseen_64 : decode cL_isForeseen 64 = .ok (.invokevirtual 88, 3) := by decide +kernel
theorem dL_isForeseen_67 : decode cL_isForeseen 67 = .ok (.ifCond .ne 18, 3) := by decide +kernel
theorem dL_isForeseen_70 : decode cL_isForeseen 70 = .ok (.aload_n 0, 1) := by decide +kernel
theorem dL_isForeseen_71 : decode cL_isForeseen 71 = .ok (.iload_n 1, 1) := by decide +kernel
theorem dL_isForeseen_72 : decode cL_isForeseen 72 = .ok (.invokevirtual 152, 3) := by decide +kernel
theorem dL_isForeseen_75 : decode cL_isForeseen 75 = .ok (.ifCond .ne 10, 3) := by decide +kernel
theorem dL_isForeseen_78 : decode cL_isForeseen 78 = .ok (.aload_n 0, 1) := by decide +kernel
theorem dL_isForeseen_79 : decode cL_isForeseen 79 = .ok (.invokestatic 119, 3) := by decide +kernel
theorem dL_isForeseen_82 : decode cL_isForeseen 82 = .ok (.ifCond .ne 5, 3) := by decide +kernel
theorem dL_isForeseen_85 : decode cL_isForeseen 85 = .ok (.iconst 0, 1) := by decide +kernel
theorem dL_isForeseen_86 : decode cL_isForeseen 86 = .ok (.ireturn, 1) := by decide +kernel
theorem dL_isForeseen_87 : decode cL_isForeseen 87 = .ok (.aload_n 0, 1) := by decide +kernel
theorem dL_isForeseen_88 : decode cL_isForeseen 88 = .ok (.iload_n 1, 1) := by decide +kernel
theorem dL_isForeseen_89 : decode cL_isForeseen 89 = .ok (.invokevirtual 155, 3) := by decide +kernel
theorem dL_isForeseen_92 : decode cL_isForeseen 92 = .ok (.ifCond .ne 29, 3) := by decide +kernel
theorem dL_isForeseen_95 : decode cL_isForeseen 95 = .ok (.aload_n 0, 1) := by decide +kernel
theorem dL_isForeseen_96 : decode cL_isForeseen 96 = .ok (.iconst 2, 1) := by decide +kernel
theorem dL_isForeseen_97 : decode cL_isForeseen 97 = .ok (.invokevirtual 146, 3) := by decide +kernel
theorem dL_isForeseen_100 : decode cL_isForeseen 100 = .ok (.i2l, 1) := by decide +kernel
theorem dL_isForeseen_101 : decode cL_isForeseen 101 = .ok (.lload_n 3, 1) := by decide +kernel
theorem dL_isForeseen_102 : decode cL_isForeseen 102 = .ok (.lconst 1, 1) := by decide +kernel
theorem dL_isForeseen_103 : decode cL_isForeseen 103 = .ok (.ladd, 1) := by decide +kernel
theorem dL_isForeseen_104 : decode cL_isForeseen 104 = .ok (.lcmp, 1) := by decide +kernel
theorem dL_isForeseen_105 : decode cL_isForeseen 105 = .ok (.ifCond .ne 16, 3) := by decide +kernel
theorem dL_isForeseen_108 : decode cL_isForeseen 108 = .ok (.aload_n 0, 1) := by decide +kernel
theorem dL_isForeseen_109 : decode cL_isForeseen 109 = .ok (.iload_n 1, 1) := by decide +kernel
theorem dL_isForeseen_110 : decode cL_isForeseen 110 = .ok (.iconst 5, 1) := by decide +kernel
theorem dL_isForeseen_111 : decode cL_isForeseen 111 = .ok (.invokevirtual 88, 3) := by decide +kernel
theorem dL_isForeseen_114 : decode cL_isForeseen 114 = .ok (.ifCond .ne 7, 3) := by decide +kernel
theorem dL_isForeseen_117 : decode cL_isForeseen 117 = .ok (.iconst 1, 1) := by decide +kernel
theorem dL_isForeseen_118 : decode cL_isForeseen 118 = .ok (.goto 4, 3) := by decide +kernel
theorem dL_isForeseen_121 : decode cL_isForeseen 121 = .ok (.iconst 0, 1) := by decide +kernel
theorem dL_isForeseen_122 : decode cL_isForeseen 122 = .ok (.ireturn, 1) := by decide +kernel
theorem dL_isTorn_0 : decode cL_isTorn 0 = .ok (.aload_n 0, 1) := by decide +kernel
theorem dL_isTorn_1 : decode cL_isTorn 1 = .ok (.iload_n 1, 1) := by decide +kernel
theorem dL_isTorn_2 : decode cL_isTorn 2 = .ok (.invokevirtual 152, 3) := by decide +kernel
theorem dL_isTorn_5 : decode cL_isTorn 5 = .ok (.istore_n 2, 1) := by decide +kernel
theorem dL_isTorn_6 : decode cL_isTorn 6 = .ok (.aload_n 0, 1) := by decide +kernel
theorem dL_isTorn_7 : decode cL_isTorn 7 = .ok (.bipush 8, 2) := by decide +kernel
theorem dL_isTorn_9 : decode cL_isTorn 9 = .ok (.invokevirtual 146, 3) := by decide +kernel
theorem dL_isTorn_12 : decode cL_isTorn 12 = .ok (.istore_n 3, 1) := by decide +kernel
theorem dL_isTorn_13 : decode cL_isTorn 13 = .ok (.aload_n 0, 1) := by decide +kernel
theorem dL_isTorn_14 : decode cL_isTorn 14 = .ok (.bipush 7, 2) := by decide +kernel
theorem dL_isTorn_16 : decode cL_isTorn 16 = .ok (.invokevirtual 146, 3) := by decide +kernel
theorem dL_isTorn_19 : decode cL_isTorn 19 = .ok (.istore 4, 2) := by decide +kernel
theorem dL_isTorn_21 : decode cL_isTorn 21 = .ok (.iconst 0, 1) := by decide +kernel
theorem dL_isTorn_22 : decode cL_isTorn 22 = .ok (.istore 5, 2) := by decide +kernel
theorem dL_isTorn_24 : decode cL_isTorn 24 = .ok (.iconst 0, 1) := by decide +kernel
theorem dL_isTorn_25 : decode cL_isTorn 25 = .ok (.istore 6, 2) := by decide +kernel
theorem dL_isTorn_27 : decode cL_isTorn 27 = .ok (.iload 6, 2) := by decide +kernel
theorem dL_isTorn_29 : decode cL_isTorn 29 = .ok (.aload_n 0, 1) := by decide +kernel
theorem dL_isTorn_30 : decode cL_isTorn 30 = .ok (.iconst 2, 1) := by decide +kernel
theorem dL_isTorn_31 : decode cL_isTorn 31 = .ok (.invokevirtual 85, 3) := by decide +kernel
theorem dL_isTorn_34 : decode cL_isTorn 34 = .ok (.if_icmp .ge 40, 3) := by decide +kernel
theorem dL_isTorn_37 : decode cL_isTorn 37 = .ok (.iload 5, 2) := by decide +kernel
theorem dL_isTorn_39 : decode cL_isTorn 39 = .ok (.aload_n 0, 1) := by decide +kernel
theorem dL_isTorn_40 : decode cL_isTorn 40 = .ok (.iload 6, 2) := by decide +kernel
theorem dL_isTorn_42 : decode cL_isTorn 42 = .ok (.iconst 1, 1) := by decide +kernel
theorem dL_isTorn_43 : decode cL_isTorn 43 = .ok (.invokevirtual 140, 3) := by decide +kernel
theorem dL_isTorn_46 : decode cL_isTorn 46 = .ok (.iload_n 1, 1) := by decide +kernel
theorem dL_isTorn_47 : decode cL_isTorn 47 = .ok (.if_icmp .ne 17, 3) := by decide +kernel
theorem dL_isTorn_50 : decode cL_isTorn 50 = .ok (.aload_n 0, 1) := by decide +kernel
theorem dL_isTorn_51 : decode cL_isTorn 51 = .ok (.iload 6, 2) := by decide +kernel
theorem dL_isTorn_53 : decode cL_isTorn 53 = .ok (.iconst 5, 1) := by decide +kernel
theorem dL_isTorn_54 : decode cL_isTorn 54 = .ok (.invokevirtual 140, 3) := by decide +kernel
theorem dL_isTorn_57 : decode cL_isTorn 57 = .ok (.ifCond .le 7, 3) := by decide +kernel
theorem dL_isTorn_60 : decode cL_isTorn 60 = .ok (.iconst 1, 1) := by decide +kernel
theorem dL_isTorn_61 : decode cL_isTorn 61 = .ok (.goto 4, 3) := by decide +kernel
theorem dL_isTorn_64 : decode cL_isTorn 64 = .ok (.iconst 0, 1) := by decide +kernel
theorem dL_isTorn_65 : decode cL_isTorn 65 = .ok (.iadd, 1) := by decide +kernel
theorem dL_isTorn_66 : decode cL_isTorn 66 = .ok (.istore 5, 2) := by decide +kernel
theorem dL_isTorn_68 : decode cL_isTorn 68 = .ok (.iinc 6 1, 3) := by decide +kernel
theorem dL_isTorn_71 : decode cL_isTorn 71 = .ok (.goto (-44), 3) := by decide +kernel
theorem dL_isTorn_74 : decode cL_isTorn 74 = .ok (.aload_n 0, 1) := by decide +kernel
theorem dL_isTorn_75 : decode cL_isTorn 75 = .ok (.iload_n 1, 1) := by decide +kernel
theorem dL_isTorn_76 : decode cL_isTorn 76 = .ok (.invokevirtual 155, 3) := by decide +kernel
theorem dL_isTorn_79 : decode cL_isTorn 79 = .ok (.iload_n 2, 1) := by decide +kernel
theorem dL_isTorn_80 : decode cL_isTorn 80 = .ok (.if_icmp .ne 50, 3) := by decide +kernel
theorem dL_isTorn_83 : decode cL_isTorn 83 = .ok (.aload_n 0, 1) := by decide +kernel
theorem dL_isTorn_84 : decode cL_isTorn 84 = .ok (.bipush 8, 2) := by decide +kernel
theorem dL_isTorn_86 : decode cL_isTorn 86 = .ok (.invokevirtual 146, 3) := by decide +kernel
theorem dL_isTorn_89 : decode cL_isTorn 89 = .ok (.iload_n 3, 1) := by decide +kernel
theorem dL_isTorn_90 : decode cL_isTorn 90 = .ok (.iload_n 2, 1) := by decide +kernel
theorem dL_isTorn_91 : decode cL_isTorn 91 = .ok (.iadd, 1) := by decide +kernel
theorem dL_isTorn_92 : decode cL_isTorn 92 = .ok (.if_icmp .ne 38, 3) := by decide +kernel
theorem dL_isTorn_95 : decode cL_isTorn 95 = .ok (.aload_n 0, 1) := by decide +kernel
theorem dL_isTorn_96 : decode cL_isTorn 96 = .ok (.bipush 7, 2) := by decide +kernel
theorem dL_isTorn_98 : decode cL_isTorn 98 = .ok (.invokevirtual 146, 3) := by decide +kernel
theorem dL_isTorn_101 : decode cL_isTorn 101 = .ok (.iload 4, 2) := by decide +kernel
theorem dL_isTorn_103 : decode cL_isTorn 103 = .ok (.iload 5, 2) := by decide +kernel
theorem dL_isTorn_105 : decode cL_isTorn 105 = .ok (.iadd, 1) := by decide +kernel
theorem dL_isTorn_106 : decode cL_isTorn 106 = .ok (.if_icmp .ne 24, 3) := by decide +kernel
theorem dL_isTorn_109 : decode cL_isTorn 109 = .ok (.aload_n 0, 1) := by decide +kernel
theorem dL_isTorn_110 : decode cL_isTorn 110 = .ok (.invokestatic 119, 3) := by decide +kernel
theorem dL_isTorn_113 : decode cL_isTorn 113 = .ok (.ifCond .eq 17, 3) := by decide +kernel
theorem dL_isTorn_116 : decode cL_isTorn 116 = .ok (.aload_n 0, 1) := by decide +kernel
theorem dL_isTorn_117 : decode cL_isTorn 117 = .ok (.iload_n 1, 1) := by decide +kernel
theorem dL_isTorn_118 : decode cL_isTorn 118 = .ok (.iconst 0, 1) := by decide +kernel
theorem dL_isTorn_119 : decode cL_isTorn 119 = .ok (.invokevirtual 88, 3) := by decide +kernel
theorem dL_isTorn_122 : decode cL_isTorn 122 = .ok (.iconst (-1), 1) := by decide +kernel
theorem dL_isTorn_123 : decode cL_isTorn 123 = .ok (.if_icmp .ne 7, 3) := by decide +kernel
theorem dL_isTorn_126 : decode cL_isTorn 126 = .ok (.iconst 1, 1) := by decide +kernel
theorem dL_isTorn_127 : decode cL_isTorn 127 = .ok (.goto 4, 3) := by decide +kernel
theorem dL_isTorn_130 : decode cL_isTorn 130 = .ok (.iconst 0, 1) := by decide +kernel
theorem dL_isTorn_131 : decode cL_isTorn 131 = .ok (.ireturn, 1) := by decide +kernel
theorem dL_refuses_0 : decode cL_refuses 0 = .ok (.aload_n 0, 1) := by decide +kernel
theorem dL_refuses_1 : decode cL_refuses 1 = .ok (.iconst 0, 1) := by decide +kernel
theorem dL_refuses_2 : decode cL_refuses 2 = .ok (.invokevirtual 101, 3) := by decide +kernel
theorem dL_refuses_5 : decode cL_refuses 5 = .ok (.pop, 1) := by decide +kernel
theorem dL_refuses_6 : decode cL_refuses 6 = .ok (.iconst 0, 1) := by decide +kernel
theorem dL_refuses_7 : decode cL_refuses 7 = .ok (.ireturn, 1) := by decide +kernel
theorem dL_refuses_8 : decode cL_refuses 8 = .ok (.astore_n 1, 1) := by decide +kernel
theorem dL_refuses_9 : decode cL_refuses 9 = .ok (.iconst 1, 1) := by decide +kernel
theorem dL_refuses_10 : decode cL_refuses 10 = .ok (.ireturn, 1) := by decide +kernel
abbrev vwCl : List vw_C := [(RX0, TX0, 6), (RX1, TX1, 3), (RX2, TX2, 2), (RX3, TX3, 6), (RX4, TX4, 16), (RX5, TX5, 14), (RX6, TX6, 10), (RX7, TX7, 5), (RJ4, TJ4, 4)]
