def RX0 : String := "BarrierFlow$Checkpoint"
def TX0 : u_T := fun k => match k with
  | 0 => ("BarrierFlow$Checkpoint", "number", "I", false)
  | 1 => ("BarrierFlow$Checkpoint", "beganAt", "I", false)
  | 2 => ("BarrierFlow$Checkpoint", "completedAt", "I", false)
  | 3 => ("BarrierFlow$Checkpoint", "overtakes", "Z", false)
  | 4 => ("BarrierFlow$Checkpoint", "isShown", "Z", false)
  | 5 => ("BarrierFlow$Checkpoint", "put", "I", false)
  | 6 => ("BarrierFlow$Checkpoint", "keptInAll", "I", false)
  | 7 => ("BarrierFlow$Checkpoint", "arrived", "[I", true)
  | 8 => ("BarrierFlow$Checkpoint", "positions", "[I", true)
  | 9 => ("BarrierFlow$Checkpoint", "sums", "[I", true)
  | _ => ("BarrierFlow$Checkpoint", "kept", "LBarrierFlow$Lists;", true)
def tyX0 : Nat → FieldType := fun k => match k with
  | 0 => .int
  | 1 => .int
  | 2 => .int
  | 3 => .boolean
  | 4 => .boolean
  | 5 => .int
  | 6 => .int
  | 7 => .array .int
  | 8 => .array .int
  | 9 => .array .int
  | _ => .object "BarrierFlow$Lists"
abbrev wsX00 : List Cond := u_ws RX0 TX0 11
theorem nmX0 : ∀ a, a < 11 → ∀ b, b < 11 → a ≠ b → (TX0 a).2.1 ≠ (TX0 b).2.1 := by decide +kernel
theorem tyX0_ok : ∀ k, k < 11 → parseFieldDescriptor (TX0 k).2.2.1 = some (tyX0 k) := by decide +kernel
abbrev cX0_init : ByteArray := prog_2_method_1_code
def yX0_init : MethodName := ⟨RX0, "<init>", "()V"⟩
abbrev cX0_exists : ByteArray := prog_2_method_2_code
def yX0_exists : MethodName := ⟨RX0, "exists", "()Z"⟩
abbrev cX0_isOvertaking : ByteArray := prog_2_method_3_code
def yX0_isOvertaking : MethodName := ⟨RX0, "isOvertaking", "()Z"⟩
abbrev cX0_start : ByteArray := prog_2_method_4_code
def yX0_start : MethodName := ⟨RX0, "start", "(IIZ)V"⟩
abbrev cX0_copyFrom : ByteArray := prog_2_method_5_code
def yX0_copyFrom : MethodName := ⟨RX0, "copyFrom", "(LBarrierFlow$Checkpoint;)V"⟩
abbrev cX0_arrivedFrom : ByteArray := prog_2_method_6_code
def yX0_arrivedFrom : MethodName := ⟨RX0, "arrivedFrom", "(II)I"⟩
abbrev cX0_hasPut : ByteArray := prog_2_method_7_code
def yX0_hasPut : MethodName := ⟨RX0, "hasPut", "(I)Z"⟩
abbrev cX0_isOnlyBehind : ByteArray := prog_2_method_8_code
def yX0_isOnlyBehind : MethodName := ⟨RX0, "isOnlyBehind", "(II)Z"⟩
abbrev cX0_keep : ByteArray := prog_2_method_9_code
def yX0_keep : MethodName := ⟨RX0, "keep", "(II)V"⟩
abbrev cX0_spread : ByteArray := prog_2_method_10_code
def yX0_spread : MethodName := ⟨RX0, "spread", "(LBarrierFlow$Setup;II)V"⟩
def RX1 : String := "BarrierFlow$Flow"
def TX1 : u_T := fun k => match k with
  | 0 => ("BarrierFlow$Flow", "instances", "I", false)
  | 1 => ("BarrierFlow$Flow", "room", "I", false)
  | 2 => ("BarrierFlow$Flow", "every", "I", false)
  | 3 => ("BarrierFlow$Flow", "overtakes", "Z", false)
  | 4 => ("BarrierFlow$Flow", "time", "I", false)
  | 5 => ("BarrierFlow$Flow", "begun", "I", false)
  | 6 => ("BarrierFlow$Flow", "finished", "I", false)
  | 7 => ("BarrierFlow$Flow", "failures", "I", false)
  | 8 => ("BarrierFlow$Flow", "sent", "I", false)
  | 9 => ("BarrierFlow$Flow", "lags", "[I", true)
  | 10 => ("BarrierFlow$Flow", "positions", "[I", true)
  | 11 => ("BarrierFlow$Flow", "sums", "[I", true)
  | 12 => ("BarrierFlow$Flow", "handled", "[I", true)
  | 13 => ("BarrierFlow$Flow", "blocked", "[I", true)
  | 14 => ("BarrierFlow$Flow", "lists", "LBarrierFlow$Lists;", true)
  | 15 => ("BarrierFlow$Flow", "pending", "LBarrierFlow$Checkpoint;", false)
  | 16 => ("BarrierFlow$Flow", "latest", "LBarrierFlow$Checkpoint;", false)
  | 17 => ("BarrierFlow$Flow", "setup", "LBarrierFlow$Setup;", false)
  | 18 => ("BarrierFlow$Flow", "turns", "[I", true)
  | _ => ("BarrierFlow$Flow", "barriers", "[I", true)
def tyX1 : Nat → FieldType := fun k => match k with
  | 0 => .int
  | 1 => .int
  | 2 => .int
  | 3 => .boolean
  | 4 => .int
  | 5 => .int
  | 6 => .int
  | 7 => .int
  | 8 => .int
  | 9 => .array .int
  | 10 => .array .int
  | 11 => .array .int
  | 12 => .array .int
  | 13 => .array .int
  | 14 => .object "BarrierFlow$Lists"
  | 15 => .object "BarrierFlow$Checkpoint"
  | 16 => .object "BarrierFlow$Checkpoint"
  | 17 => .object "BarrierFlow$Setup"
  | 18 => .array .int
  | _ => .array .int
abbrev wsX10 : List Cond := u_ws RX1 TX1 20
theorem nmX1 : ∀ a, a < 20 → ∀ b, b < 20 → a ≠ b → (TX1 a).2.1 ≠ (TX1 b).2.1 := by decide +kernel
theorem tyX1_ok : ∀ k, k < 20 → parseFieldDescriptor (TX1 k).2.2.1 = some (tyX1 k) := by decide +kernel
abbrev cX1_init : ByteArray := prog_3_method_1_code
def yX1_init : MethodName := ⟨RX1, "<init>", "(LBarrierFlow$Setup;)V"⟩
abbrev cX1_start : ByteArray := prog_3_method_2_code
def yX1_start : MethodName := ⟨RX1, "start", "(LBarrierFlow$Setup;)V"⟩
abbrev cX1_copyFrom : ByteArray := prog_3_method_3_code
def yX1_copyFrom : MethodName := ⟨RX1, "copyFrom", "(LBarrierFlow$Flow;)V"⟩
abbrev cX1_tick : ByteArray := prog_3_method_4_code
def yX1_tick : MethodName := ⟨RX1, "tick", "()V"⟩
abbrev cX1_sendersTo : ByteArray := prog_3_method_5_code
def yX1_sendersTo : MethodName := ⟨RX1, "sendersTo", "(I)I"⟩
abbrev cX1_ticksToCompletion : ByteArray := prog_3_method_6_code
def yX1_ticksToCompletion : MethodName := ⟨RX1, "ticksToCompletion", "(I)I"⟩
abbrev cX1_startCheckpoint : ByteArray := prog_3_method_7_code
def yX1_startCheckpoint : MethodName := ⟨RX1, "startCheckpoint", "(Z)V"⟩
abbrev cX1_showLatest : ByteArray := prog_3_method_8_code
def yX1_showLatest : MethodName := ⟨RX1, "showLatest", "()V"⟩
abbrev cX1_putBarriers : ByteArray := prog_3_method_9_code
def yX1_putBarriers : MethodName := ⟨RX1, "putBarriers", "(I)V"⟩
abbrev cX1_sendRecord : ByteArray := prog_3_method_10_code
def yX1_sendRecord : MethodName := ⟨RX1, "sendRecord", "(I)V"⟩
abbrev cX1_letBarriersOvertake : ByteArray := prog_3_method_11_code
def yX1_letBarriersOvertake : MethodName := ⟨RX1, "letBarriersOvertake", "(II)V"⟩
abbrev cX1_senderInTurn : ByteArray := prog_3_method_12_code
def yX1_senderInTurn : MethodName := ⟨RX1, "senderInTurn", "(I)I"⟩
abbrev cX1_canBeTaken : ByteArray := prog_3_method_13_code
def yX1_canBeTaken : MethodName := ⟨RX1, "canBeTaken", "(II)Z"⟩
abbrev cX1_channelForResult : ByteArray := prog_3_method_14_code
def yX1_channelForResult : MethodName := ⟨RX1, "channelForResult", "(II)I"⟩
abbrev cX1_take : ByteArray := prog_3_method_15_code
def yX1_take : MethodName := ⟨RX1, "take", "(II)V"⟩
abbrev cX1_addUp : ByteArray := prog_3_method_16_code
def yX1_addUp : MethodName := ⟨RX1, "addUp", "(II)V"⟩
abbrev cX1_letBarrierArrive : ByteArray := prog_3_method_17_code
def yX1_letBarrierArrive : MethodName := ⟨RX1, "letBarrierArrive", "(II)V"⟩
abbrev cX1_keepFirst : ByteArray := prog_3_method_18_code
def yX1_keepFirst : MethodName := ⟨RX1, "keepFirst", "(II)V"⟩
abbrev cX1_cut : ByteArray := prog_3_method_19_code
def yX1_cut : MethodName := ⟨RX1, "cut", "(I)V"⟩
abbrev cX1_completeIfAllArrived : ByteArray := prog_3_method_20_code
def yX1_completeIfAllArrived : MethodName := ⟨RX1, "completeIfAllArrived", "()V"⟩
abbrev cX1_recover : ByteArray := prog_3_method_21_code
def yX1_recover : MethodName := ⟨RX1, "recover", "()V"⟩
abbrev cX1_goBackToLatest : ByteArray := prog_3_method_22_code
def yX1_goBackToLatest : MethodName := ⟨RX1, "goBackToLatest", "()V"⟩
abbrev cX1_recoverWith : ByteArray := prog_3_method_23_code
def yX1_recoverWith : MethodName := ⟨RX1, "recoverWith", "(I)V"⟩
abbrev cX1_recordsTo : ByteArray := prog_3_method_26_code
def yX1_recordsTo : MethodName := ⟨RX1, "recordsTo", "(I)I"⟩
abbrev cX1_resultsFrom : ByteArray := prog_3_method_27_code
def yX1_resultsFrom : MethodName := ⟨RX1, "resultsFrom", "(I)I"⟩
abbrev cX1_positionsInAll : ByteArray := prog_3_method_29_code
def yX1_positionsInAll : MethodName := ⟨RX1, "positionsInAll", "()I"⟩
abbrev cX1_recordsAtRisk : ByteArray := prog_3_method_30_code
def yX1_recordsAtRisk : MethodName := ⟨RX1, "recordsAtRisk", "()I"⟩
def RX2 : String := "BarrierFlow$Input"
def TX2 : u_T := fun k => match k with
  | 0 => ("BarrierFlow$Input", "bytes", "[B", true)
  | _ => ("BarrierFlow$Input", "length", "I", false)
def tyX2 : Nat → FieldType := fun k => match k with
  | 0 => .array .byte
  | _ => .int
abbrev wsX20 : List Cond := u_ws RX2 TX2 2
theorem nmX2 : ∀ a, a < 2 → ∀ b, b < 2 → a ≠ b → (TX2 a).2.1 ≠ (TX2 b).2.1 := by decide +kernel
theorem tyX2_ok : ∀ k, k < 2 → parseFieldDescriptor (TX2 k).2.2.1 = some (tyX2 k) := by decide +kernel
abbrev cX2_init : ByteArray := prog_4_method_1_code
def yX2_init : MethodName := ⟨RX2, "<init>", "()V"⟩
abbrev cX2_addFourBytes : ByteArray := prog_4_method_2_code
def yX2_addFourBytes : MethodName := ⟨RX2, "addFourBytes", "(I)V"⟩
abbrev cX2_addByte : ByteArray := prog_4_method_3_code
def yX2_addByte : MethodName := ⟨RX2, "addByte", "(I)V"⟩
abbrev cX2_byteAt : ByteArray := prog_4_method_4_code
def yX2_byteAt : MethodName := ⟨RX2, "byteAt", "(I)I"⟩
def RX3 : String := "BarrierFlow$Lists"
def TX3 : u_T := fun k => match k with
  | 0 => ("BarrierFlow$Lists", "next", "[I", true)
  | 1 => ("BarrierFlow$Lists", "first", "[I", true)
  | 2 => ("BarrierFlow$Lists", "last", "[I", true)
  | _ => ("BarrierFlow$Lists", "size", "[I", true)
def tyX3 : Nat → FieldType := fun k => match k with
  | 0 => .array .int
  | 1 => .array .int
  | 2 => .array .int
  | _ => .array .int
abbrev wsX30 : List Cond := u_ws RX3 TX3 4
theorem nmX3 : ∀ a, a < 4 → ∀ b, b < 4 → a ≠ b → (TX3 a).2.1 ≠ (TX3 b).2.1 := by decide +kernel
theorem tyX3_ok : ∀ k, k < 4 → parseFieldDescriptor (TX3 k).2.2.1 = some (tyX3 k) := by decide +kernel
abbrev cX3_init : ByteArray := prog_5_method_1_code
def yX3_init : MethodName := ⟨RX3, "<init>", "()V"⟩
abbrev cX3_clearAll : ByteArray := prog_5_method_2_code
def yX3_clearAll : MethodName := ⟨RX3, "clearAll", "()V"⟩
abbrev cX3_clear : ByteArray := prog_5_method_3_code
def yX3_clear : MethodName := ⟨RX3, "clear", "(I)V"⟩
abbrev cX3_copyFrom : ByteArray := prog_5_method_4_code
def yX3_copyFrom : MethodName := ⟨RX3, "copyFrom", "(LBarrierFlow$Lists;)V"⟩
abbrev cX3_sizeOf : ByteArray := prog_5_method_5_code
def yX3_sizeOf : MethodName := ⟨RX3, "sizeOf", "(I)I"⟩
abbrev cX3_firstOf : ByteArray := prog_5_method_6_code
def yX3_firstOf : MethodName := ⟨RX3, "firstOf", "(I)I"⟩
abbrev cX3_behind : ByteArray := prog_5_method_7_code
def yX3_behind : MethodName := ⟨RX3, "behind", "(I)I"⟩
abbrev cX3_at : ByteArray := prog_5_method_8_code
def yX3_at : MethodName := ⟨RX3, "at", "(II)I"⟩
abbrev cX3_add : ByteArray := prog_5_method_9_code
def yX3_add : MethodName := ⟨RX3, "add", "(II)V"⟩
abbrev cX3_takeFirst : ByteArray := prog_5_method_10_code
def yX3_takeFirst : MethodName := ⟨RX3, "takeFirst", "(I)I"⟩
abbrev cX3_moveAll : ByteArray := prog_5_method_11_code
def yX3_moveAll : MethodName := ⟨RX3, "moveAll", "(II)V"⟩
abbrev cX3_isList : ByteArray := prog_5_method_12_code
def yX3_isList : MethodName := ⟨RX3, "isList", "(I)Z"⟩
abbrev cX3_isRecord : ByteArray := prog_5_method_13_code
def yX3_isRecord : MethodName := ⟨RX3, "isRecord", "(I)Z"⟩
def RX4 : String := "BarrierFlow$Output"
def TX4 : u_T := fun k => match k with
  | 0 => ("BarrierFlow$Output", "bytes", "[B", true)
  | _ => ("BarrierFlow$Output", "length", "I", false)
def tyX4 : Nat → FieldType := fun k => match k with
  | 0 => .array .byte
  | _ => .int
abbrev wsX40 : List Cond := u_ws RX4 TX4 2
theorem nmX4 : ∀ a, a < 2 → ∀ b, b < 2 → a ≠ b → (TX4 a).2.1 ≠ (TX4 b).2.1 := by decide +kernel
theorem tyX4_ok : ∀ k, k < 2 → parseFieldDescriptor (TX4 k).2.2.1 = some (tyX4 k) := by decide +kernel
abbrev cX4_init : ByteArray := prog_6_method_1_code
def yX4_init : MethodName := ⟨RX4, "<init>", "()V"⟩
def RX5 : String := "BarrierFlow$Parser"
def TX5 : u_T := fun k => match k with
  | 0 => ("BarrierFlow$Parser", "error", "I", false)
  | 1 => ("BarrierFlow$Parser", "errorAt", "I", false)
  | 2 => ("BarrierFlow$Parser", "text", "LBarrierFlow$Input;", true)
  | 3 => ("BarrierFlow$Parser", "setup", "LBarrierFlow$Setup;", false)
  | 4 => ("BarrierFlow$Parser", "kind", "I", false)
  | 5 => ("BarrierFlow$Parser", "from", "I", false)
  | 6 => ("BarrierFlow$Parser", "to", "I", false)
  | _ => ("BarrierFlow$Parser", "number", "I", false)
def tyX5 : Nat → FieldType := fun k => match k with
  | 0 => .int
  | 1 => .int
  | 2 => .object "BarrierFlow$Input"
  | 3 => .object "BarrierFlow$Setup"
  | 4 => .int
  | 5 => .int
  | 6 => .int
  | _ => .int
abbrev wsX50 : List Cond := u_ws RX5 TX5 8
theorem nmX5 : ∀ a, a < 8 → ∀ b, b < 8 → a ≠ b → (TX5 a).2.1 ≠ (TX5 b).2.1 := by decide +kernel
theorem tyX5_ok : ∀ k, k < 8 → parseFieldDescriptor (TX5 k).2.2.1 = some (tyX5 k) := by decide +kernel
abbrev cX5_init : ByteArray := prog_7_method_1_code
def yX5_init : MethodName := ⟨RX5, "<init>", "(LBarrierFlow$Input;)V"⟩
abbrev cX5_read : ByteArray := prog_7_method_2_code
def yX5_read : MethodName := ⟨RX5, "read", "(LBarrierFlow$Setup;)Z"⟩
abbrev cX5_readStatement : ByteArray := prog_7_method_3_code
def yX5_readStatement : MethodName := ⟨RX5, "readStatement", "()Z"⟩
abbrev cX5_readSource : ByteArray := prog_7_method_4_code
def yX5_readSource : MethodName := ⟨RX5, "readSource", "()Z"⟩
abbrev cX5_readSetting : ByteArray := prog_7_method_5_code
def yX5_readSetting : MethodName := ⟨RX5, "readSetting", "(LBarrierFlow$Word;)Z"⟩
abbrev cX5_readName : ByteArray := prog_7_method_6_code
def yX5_readName : MethodName := ⟨RX5, "readName", "(I)Z"⟩
abbrev cX5_readWord : ByteArray := prog_7_method_7_code
def yX5_readWord : MethodName := ⟨RX5, "readWord", "(LBarrierFlow$Word;)Z"⟩
abbrev cX5_readNumber : ByteArray := prog_7_method_8_code
def yX5_readNumber : MethodName := ⟨RX5, "readNumber", "(LBarrierFlow$Word;)Z"⟩
abbrev cX5_readSemicolon : ByteArray := prog_7_method_9_code
def yX5_readSemicolon : MethodName := ⟨RX5, "readSemicolon", "()Z"⟩
abbrev cX5_refuse : ByteArray := prog_7_method_10_code
def yX5_refuse : MethodName := ⟨RX5, "refuse", "(I)Z"⟩
abbrev cX5_quotedWord : ByteArray := prog_7_method_11_code
def yX5_quotedWord : MethodName := ⟨RX5, "quotedWord", "()LBarrierFlow$Word;"⟩
abbrev cX5_isToken : ByteArray := prog_7_method_12_code
def yX5_isToken : MethodName := ⟨RX5, "isToken", "(Ljava/lang/String;)Z"⟩
abbrev cX5_advance : ByteArray := prog_7_method_13_code
def yX5_advance : MethodName := ⟨RX5, "advance", "()V"⟩
abbrev cX5_kindAt : ByteArray := prog_7_method_14_code
def yX5_kindAt : MethodName := ⟨RX5, "kindAt", "(I)I"⟩
def RX6 : String := "BarrierFlow$Past"
def TX6 : u_T := fun k => match k with
  | 0 => ("BarrierFlow$Past", "size", "I", false)
  | 1 => ("BarrierFlow$Past", "newest", "I", false)
  | _ => ("BarrierFlow$Past", "flows", "[LBarrierFlow$Flow;", true)
def tyX6 : Nat → FieldType := fun k => match k with
  | 0 => .int
  | 1 => .int
  | _ => .array (.object "BarrierFlow$Flow")
abbrev wsX60 : List Cond := u_ws RX6 TX6 3
theorem nmX6 : ∀ a, a < 3 → ∀ b, b < 3 → a ≠ b → (TX6 a).2.1 ≠ (TX6 b).2.1 := by decide +kernel
theorem tyX6_ok : ∀ k, k < 3 → parseFieldDescriptor (TX6 k).2.2.1 = some (tyX6 k) := by decide +kernel
abbrev cX6_init : ByteArray := prog_8_method_1_code
def yX6_init : MethodName := ⟨RX6, "<init>", "(LBarrierFlow$Setup;)V"⟩
abbrev cX6_forget : ByteArray := prog_8_method_2_code
def yX6_forget : MethodName := ⟨RX6, "forget", "()V"⟩
abbrev cX6_remember : ByteArray := prog_8_method_3_code
def yX6_remember : MethodName := ⟨RX6, "remember", "(LBarrierFlow$Flow;)V"⟩
abbrev cX6_giveBack : ByteArray := prog_8_method_4_code
def yX6_giveBack : MethodName := ⟨RX6, "giveBack", "(LBarrierFlow$Flow;)V"⟩
def RX7 : String := "BarrierFlow$Setup"
def TX7 : u_T := fun k => match k with
  | 0 => ("BarrierFlow$Setup", "sources", "I", false)
  | 1 => ("BarrierFlow$Setup", "sinks", "I", false)
  | 2 => ("BarrierFlow$Setup", "records", "[I", true)
  | 3 => ("BarrierFlow$Setup", "seeds", "[I", true)
  | 4 => ("BarrierFlow$Setup", "lags", "[I", true)
  | 5 => ("BarrierFlow$Setup", "nameLengths", "[I", true)
  | 6 => ("BarrierFlow$Setup", "letters", "[B", true)
  | 7 => ("BarrierFlow$Setup", "settings", "[I", true)
  | 8 => ("BarrierFlow$Setup", "keys", "[I", true)
  | 9 => ("BarrierFlow$Setup", "values", "[I", true)
  | _ => ("BarrierFlow$Setup", "results", "[I", true)
def tyX7 : Nat → FieldType := fun k => match k with
  | 0 => .int
  | 1 => .int
  | 2 => .array .int
  | 3 => .array .int
  | 4 => .array .int
  | 5 => .array .int
  | 6 => .array .byte
  | 7 => .array .int
  | 8 => .array .int
  | 9 => .array .int
  | _ => .array .int
abbrev wsX70 : List Cond := u_ws RX7 TX7 11
theorem nmX7 : ∀ a, a < 11 → ∀ b, b < 11 → a ≠ b → (TX7 a).2.1 ≠ (TX7 b).2.1 := by decide +kernel
theorem tyX7_ok : ∀ k, k < 11 → parseFieldDescriptor (TX7 k).2.2.1 = some (tyX7 k) := by decide +kernel
abbrev cX7_init : ByteArray := prog_9_method_1_code
def yX7_init : MethodName := ⟨RX7, "<init>", "()V"⟩
abbrev cX7_clear : ByteArray := prog_9_method_2_code
def yX7_clear : MethodName := ⟨RX7, "clear", "()V"⟩
abbrev cX7_makePlain : ByteArray := prog_9_method_3_code
def yX7_makePlain : MethodName := ⟨RX7, "makePlain", "()V"⟩
abbrev cX7_finish : ByteArray := prog_9_method_4_code
def yX7_finish : MethodName := ⟨RX7, "finish", "()V"⟩
abbrev cX7_makeRecords : ByteArray := prog_9_method_5_code
def yX7_makeRecords : MethodName := ⟨RX7, "makeRecords", "(I)V"⟩
abbrev cX7_makeResults : ByteArray := prog_9_method_6_code
def yX7_makeResults : MethodName := ⟨RX7, "makeResults", "(I)V"⟩
abbrev cX7_chosen : ByteArray := prog_9_method_7_code
def yX7_chosen : MethodName := ⟨RX7, "chosen", "(LBarrierFlow$Word;)I"⟩
abbrev cX7_setName : ByteArray := prog_9_method_8_code
def yX7_setName : MethodName := ⟨RX7, "setName", "(I[BII)V"⟩
abbrev cX7_named : ByteArray := prog_9_method_9_code
def yX7_named : MethodName := ⟨RX7, "named", "([BII)I"⟩
abbrev cX7_isName : ByteArray := prog_9_method_10_code
def yX7_isName : MethodName := ⟨RX7, "isName", "(I[BII)Z"⟩
abbrev cX7_keyOf : ByteArray := prog_9_method_11_code
def yX7_keyOf : MethodName := ⟨RX7, "keyOf", "(I)I"⟩
abbrev cX7_valueOf : ByteArray := prog_9_method_12_code
def yX7_valueOf : MethodName := ⟨RX7, "valueOf", "(I)I"⟩
abbrev cX7_resultOf : ByteArray := prog_9_method_13_code
def yX7_resultOf : MethodName := ⟨RX7, "resultOf", "(I)I"⟩
abbrev cX7_resultBehind : ByteArray := prog_9_method_14_code
def yX7_resultBehind : MethodName := ⟨RX7, "resultBehind", "(II)I"⟩
abbrev cX7_sinkOf : ByteArray := prog_9_method_15_code
def yX7_sinkOf : MethodName := ⟨RX7, "sinkOf", "(I)I"⟩
def RX8 : String := "BarrierFlow$Word"
def TX8 : u_T := fun k => match k with
  | _ => ("", "", "", false)
def tyX8 : Nat → FieldType := fun k => match k with
  | _ => .int
abbrev wsX80 : List Cond := u_ws RX8 TX8 0
theorem nmX8 : ∀ a, a < 0 → ∀ b, b < 0 → a ≠ b → (TX8 a).2.1 ≠ (TX8 b).2.1 := by decide +kernel
theorem tyX8_ok : ∀ k, k < 0 → parseFieldDescriptor (TX8 k).2.2.1 = some (tyX8 k) := by decide +kernel
def RX9 : String := "BarrierFlow"
def TX9 : u_T := fun k => match k with
  | 0 => ("BarrierFlow", "input", "LBarrierFlow$Input;", true)
  | 1 => ("BarrierFlow", "parser", "LBarrierFlow$Parser;", true)
  | 2 => ("BarrierFlow", "output", "LBarrierFlow$Output;", true)
  | 3 => ("BarrierFlow", "past", "LBarrierFlow$Past;", true)
  | 4 => ("BarrierFlow", "now", "LBarrierFlow$Flow;", true)
  | 5 => ("BarrierFlow", "trial", "LBarrierFlow$Flow;", true)
  | 6 => ("BarrierFlow", "saved", "LBarrierFlow$Flow;", true)
  | 7 => ("BarrierFlow", "isSaved", "Z", false)
  | 8 => ("BarrierFlow", "setup", "LBarrierFlow$Setup;", false)
  | _ => ("BarrierFlow", "draft", "LBarrierFlow$Setup;", false)
def tyX9 : Nat → FieldType := fun k => match k with
  | 0 => .object "BarrierFlow$Input"
  | 1 => .object "BarrierFlow$Parser"
  | 2 => .object "BarrierFlow$Output"
  | 3 => .object "BarrierFlow$Past"
  | 4 => .object "BarrierFlow$Flow"
  | 5 => .object "BarrierFlow$Flow"
  | 6 => .object "BarrierFlow$Flow"
  | 7 => .boolean
  | 8 => .object "BarrierFlow$Setup"
  | _ => .object "BarrierFlow$Setup"
abbrev wsX90 : List Cond := u_ws RX9 TX9 10
theorem nmX9 : ∀ a, a < 10 → ∀ b, b < 10 → a ≠ b → (TX9 a).2.1 ≠ (TX9 b).2.1 := by decide +kernel
theorem tyX9_ok : ∀ k, k < 10 → parseFieldDescriptor (TX9 k).2.2.1 = some (tyX9 k) := by decide +kernel
abbrev cX9_init : ByteArray := prog_1_method_1_code
def yX9_init : MethodName := ⟨RX9, "<init>", "()V"⟩
abbrev cX9_feed : ByteArray := prog_1_method_2_code
def yX9_feed : MethodName := ⟨RX9, "feed", "(IIIII)I"⟩
abbrev cX9_truncate : ByteArray := prog_1_method_3_code
def yX9_truncate : MethodName := ⟨RX9, "truncate", "(I)Z"⟩
abbrev cX9_parse : ByteArray := prog_1_method_4_code
def yX9_parse : MethodName := ⟨RX9, "parse", "()I"⟩
abbrev cX9_count : ByteArray := prog_1_method_7_code
def yX9_count : MethodName := ⟨RX9, "count", "(I)I"⟩
abbrev cX9_source : ByteArray := prog_1_method_9_code
def yX9_source : MethodName := ⟨RX9, "source", "(II)I"⟩
abbrev cX9_owner : ByteArray := prog_1_method_11_code
def yX9_owner : MethodName := ⟨RX9, "owner", "(I)I"⟩
abbrev cX9_sum : ByteArray := prog_1_method_12_code
def yX9_sum : MethodName := ⟨RX9, "sum", "(I)I"⟩
abbrev cX9_instance : ByteArray := prog_1_method_13_code
def yX9_instance : MethodName := ⟨RX9, "instance", "(II)I"⟩
abbrev cX9_sink : ByteArray := prog_1_method_14_code
def yX9_sink : MethodName := ⟨RX9, "sink", "(II)I"⟩
abbrev cX9_shown : ByteArray := prog_1_method_15_code
def yX9_shown : MethodName := ⟨RX9, "shown", "(III)I"⟩
abbrev cX9_progress : ByteArray := prog_1_method_18_code
def yX9_progress : MethodName := ⟨RX9, "progress", "(I)I"⟩
abbrev cX9_completed : ByteArray := prog_1_method_19_code
def yX9_completed : MethodName := ⟨RX9, "completed", "(I)I"⟩
abbrev cX9_notedPosition : ByteArray := prog_1_method_20_code
def yX9_notedPosition : MethodName := ⟨RX9, "notedPosition", "(I)I"⟩
abbrev cX9_notedSum : ByteArray := prog_1_method_21_code
def yX9_notedSum : MethodName := ⟨RX9, "notedSum", "(I)I"⟩
abbrev cX9_shownOf : ByteArray := prog_1_method_22_code
def yX9_shownOf : MethodName := ⟨RX9, "shownOf", "(I)I"⟩
abbrev cX9_expected : ByteArray := prog_1_method_23_code
def yX9_expected : MethodName := ⟨RX9, "expected", "(II)I"⟩
abbrev cX9_atRisk : ByteArray := prog_1_method_24_code
def yX9_atRisk : MethodName := ⟨RX9, "atRisk", "()I"⟩
abbrev cX9_run : ByteArray := prog_1_method_28_code
def yX9_run : MethodName := ⟨RX9, "run", "(I)I"⟩
abbrev cX9_begin : ByteArray := prog_1_method_29_code
def yX9_begin : MethodName := ⟨RX9, "begin", "(Z)I"⟩
abbrev cX9_fail : ByteArray := prog_1_method_30_code
def yX9_fail : MethodName := ⟨RX9, "fail", "()I"⟩
abbrev cX9_rescale : ByteArray := prog_1_method_31_code
def yX9_rescale : MethodName := ⟨RX9, "rescale", "(I)I"⟩
abbrev cX9_setRoom : ByteArray := prog_1_method_32_code
def yX9_setRoom : MethodName := ⟨RX9, "setRoom", "(I)I"⟩
abbrev cX9_setLag : ByteArray := prog_1_method_33_code
def yX9_setLag : MethodName := ⟨RX9, "setLag", "(II)I"⟩
abbrev cX9_setEvery : ByteArray := prog_1_method_34_code
def yX9_setEvery : MethodName := ⟨RX9, "setEvery", "(IZ)I"⟩
abbrev cX9_undo : ByteArray := prog_1_method_35_code
def yX9_undo : MethodName := ⟨RX9, "undo", "()I"⟩
abbrev cX9_completesIn : ByteArray := prog_1_method_36_code
def yX9_completesIn : MethodName := ⟨RX9, "completesIn", "(I)I"⟩
abbrev cX9_wouldTake : ByteArray := prog_1_method_37_code
def yX9_wouldTake : MethodName := ⟨RX9, "wouldTake", "(Z)I"⟩
abbrev cX9_wouldKeep : ByteArray := prog_1_method_38_code
def yX9_wouldKeep : MethodName := ⟨RX9, "wouldKeep", "()I"⟩
abbrev cX9_saveState : ByteArray := prog_1_method_43_code
def yX9_saveState : MethodName := ⟨RX9, "saveState", "()I"⟩
abbrev cX9_restoreState : ByteArray := prog_1_method_44_code
def yX9_restoreState : MethodName := ⟨RX9, "restoreState", "()I"⟩
abbrev cX9_needSource : ByteArray := prog_1_method_45_code
def yX9_needSource : MethodName := ⟨RX9, "needSource", "(I)V"⟩
abbrev cX9_needInstance : ByteArray := prog_1_method_46_code
def yX9_needInstance : MethodName := ⟨RX9, "needInstance", "(I)V"⟩
abbrev cX9_needSink : ByteArray := prog_1_method_47_code
def yX9_needSink : MethodName := ⟨RX9, "needSink", "(I)V"⟩
abbrev cX9_needKey : ByteArray := prog_1_method_48_code
def yX9_needKey : MethodName := ⟨RX9, "needKey", "(I)V"⟩
abbrev cX9_needTicks : ByteArray := prog_1_method_49_code
def yX9_needTicks : MethodName := ⟨RX9, "needTicks", "(I)V"⟩
abbrev cX9_ownerOf : ByteArray := prog_1_method_50_code
def yX9_ownerOf : MethodName := ⟨RX9, "ownerOf", "(II)I"⟩
abbrev cX9_groupsOf : ByteArray := prog_1_method_51_code
def yX9_groupsOf : MethodName := ⟨RX9, "groupsOf", "(II)I"⟩
abbrev cX9_groupsMoved : ByteArray := prog_1_method_52_code
def yX9_groupsMoved : MethodName := ⟨RX9, "groupsMoved", "(II)I"⟩
abbrev cX9_channel : ByteArray := prog_1_method_53_code
def yX9_channel : MethodName := ⟨RX9, "channel", "(II)I"⟩
abbrev cX9_numberOf : ByteArray := prog_1_method_54_code
def yX9_numberOf : MethodName := ⟨RX9, "numberOf", "(II)I"⟩
abbrev cX9_copyRow : ByteArray := prog_1_method_55_code
def yX9_copyRow : MethodName := ⟨RX9, "copyRow", "([I[I)V"⟩
abbrev cX9_fillRow : ByteArray := prog_1_method_56_code
def yX9_fillRow : MethodName := ⟨RX9, "fillRow", "([II)V"⟩
def RX10 : String := "BarrierFlowModel"
def TX10 : u_T := fun k => match k with
  | _ => ("", "", "", false)
def tyX10 : Nat → FieldType := fun k => match k with
  | _ => .int
abbrev wsX100 : List Cond := u_ws RX10 TX10 0
theorem nmX10 : ∀ a, a < 0 → ∀ b, b < 0 → a ≠ b → (TX10 a).2.1 ≠ (TX10 b).2.1 := by decide +kernel
theorem tyX10_ok : ∀ k, k < 0 → parseFieldDescriptor (TX10 k).2.2.1 = some (tyX10 k) := by decide +kernel
def RJx145de : String := "java/io/Serializable"
def TJx145de : u_T := fun k => match k with
  | _ => ("", "", "", false)
def tyJx145de : Nat → FieldType := fun k => match k with
  | _ => .int
abbrev wsJx145de0 : List Cond := u_ws RJx145de TJx145de 0
theorem nmJx145de : ∀ a, a < 0 → ∀ b, b < 0 → a ≠ b → (TJx145de a).2.1 ≠ (TJx145de b).2.1 := by decide +kernel
theorem tyJx145de_ok : ∀ k, k < 0 → parseFieldDescriptor (TJx145de k).2.2.1 = some (tyJx145de k) := by decide +kernel
def RJ5 : String := "java/lang/AbstractStringBuilder"
def TJ5 : u_T := fun k => match k with
  | _ => ("", "", "", false)
def tyJ5 : Nat → FieldType := fun k => match k with
  | _ => .int
abbrev wsJ50 : List Cond := u_ws RJ5 TJ5 0
theorem nmJ5 : ∀ a, a < 0 → ∀ b, b < 0 → a ≠ b → (TJ5 a).2.1 ≠ (TJ5 b).2.1 := by decide +kernel
theorem tyJ5_ok : ∀ k, k < 0 → parseFieldDescriptor (TJ5 k).2.2.1 = some (tyJ5 k) := by decide +kernel
abbrev cJ5_init_d00df : ByteArray := prog_14_method_2_code
def yJ5_init_d00df : MethodName := ⟨RJ5, "<init>", "(I)V"⟩
abbrev cJ5_length_8abf5 : ByteArray := prog_14_method_6_code
def yJ5_length_8abf5 : MethodName := ⟨RJ5, "length", "()I"⟩
abbrev cJ5_ensureCapacityInternal_d00df : ByteArray := prog_14_method_9_code
def yJ5_ensureCapacityInternal_d00df : MethodName := ⟨RJ5, "ensureCapacityInternal", "(I)V"⟩
abbrev cJ5_newCapacity_0f7a4 : ByteArray := prog_14_method_10_code
def yJ5_newCapacity_0f7a4 : MethodName := ⟨RJ5, "newCapacity", "(I)I"⟩
abbrev cJ5_inflate_da8c8 : ByteArray := prog_14_method_11_code
def yJ5_inflate_da8c8 : MethodName := ⟨RJ5, "inflate", "()V"⟩
abbrev cJ5_append_cf1ce : ByteArray := prog_14_method_22_code
def yJ5_append_cf1ce : MethodName := ⟨RJ5, "append", "(Ljava/lang/String;)Ljava/lang/AbstractStringBuilder;"⟩
abbrev cJ5_appendNull_278bc : ByteArray := prog_14_method_26_code
def yJ5_appendNull_278bc : MethodName := ⟨RJ5, "appendNull", "()Ljava/lang/AbstractStringBuilder;"⟩
abbrev cJ5_append_3fe6f : ByteArray := prog_14_method_31_code
def yJ5_append_3fe6f : MethodName := ⟨RJ5, "append", "(C)Ljava/lang/AbstractStringBuilder;"⟩
abbrev cJ5_append_c97b9 : ByteArray := prog_14_method_32_code
def yJ5_append_c97b9 : MethodName := ⟨RJ5, "append", "(I)Ljava/lang/AbstractStringBuilder;"⟩
abbrev cJ5_getValue_6d5f1 : ByteArray := prog_14_method_64_code
def yJ5_getValue_6d5f1 : MethodName := ⟨RJ5, "getValue", "()[B"⟩
abbrev cJ5_isLatin1_aae02 : ByteArray := prog_14_method_68_code
def yJ5_isLatin1_aae02 : MethodName := ⟨RJ5, "isLatin1", "()Z"⟩
abbrev cJ5_inflateIfNeededFor_a7421 : ByteArray := prog_14_method_71_code
def yJ5_inflateIfNeededFor_a7421 : MethodName := ⟨RJ5, "inflateIfNeededFor", "(Ljava/lang/String;)V"⟩
abbrev cJ5_putStringAt_47b60 : ByteArray := prog_14_method_73_code
def yJ5_putStringAt_47b60 : MethodName := ⟨RJ5, "putStringAt", "(ILjava/lang/String;)V"⟩
def RJx2cfe8 : String := "java/lang/Appendable"
def TJx2cfe8 : u_T := fun k => match k with
  | _ => ("", "", "", false)
def tyJx2cfe8 : Nat → FieldType := fun k => match k with
  | _ => .int
abbrev wsJx2cfe80 : List Cond := u_ws RJx2cfe8 TJx2cfe8 0
theorem nmJx2cfe8 : ∀ a, a < 0 → ∀ b, b < 0 → a ≠ b → (TJx2cfe8 a).2.1 ≠ (TJx2cfe8 b).2.1 := by decide +kernel
theorem tyJx2cfe8_ok : ∀ k, k < 0 → parseFieldDescriptor (TJx2cfe8 k).2.2.1 = some (tyJx2cfe8 k) := by decide +kernel
def RJx9f9b0 : String := "java/lang/CharSequence"
def TJx9f9b0 : u_T := fun k => match k with
  | _ => ("", "", "", false)
def tyJx9f9b0 : Nat → FieldType := fun k => match k with
  | _ => .int
abbrev wsJx9f9b00 : List Cond := u_ws RJx9f9b0 TJx9f9b0 0
theorem nmJx9f9b0 : ∀ a, a < 0 → ∀ b, b < 0 → a ≠ b → (TJx9f9b0 a).2.1 ≠ (TJx9f9b0 b).2.1 := by decide +kernel
theorem tyJx9f9b0_ok : ∀ k, k < 0 → parseFieldDescriptor (TJx9f9b0 k).2.2.1 = some (tyJx9f9b0 k) := by decide +kernel
def RJx8e188 : String := "java/lang/Cloneable"
def TJx8e188 : u_T := fun k => match k with
  | _ => ("", "", "", false)
def tyJx8e188 : Nat → FieldType := fun k => match k with
  | _ => .int
abbrev wsJx8e1880 : List Cond := u_ws RJx8e188 TJx8e188 0
theorem nmJx8e188 : ∀ a, a < 0 → ∀ b, b < 0 → a ≠ b → (TJx8e188 a).2.1 ≠ (TJx8e188 b).2.1 := by decide +kernel
theorem tyJx8e188_ok : ∀ k, k < 0 → parseFieldDescriptor (TJx8e188 k).2.2.1 = some (tyJx8e188 k) := by decide +kernel
def RJxb160c : String := "java/lang/Comparable"
def TJxb160c : u_T := fun k => match k with
  | _ => ("", "", "", false)
def tyJxb160c : Nat → FieldType := fun k => match k with
  | _ => .int
abbrev wsJxb160c0 : List Cond := u_ws RJxb160c TJxb160c 0
theorem nmJxb160c : ∀ a, a < 0 → ∀ b, b < 0 → a ≠ b → (TJxb160c a).2.1 ≠ (TJxb160c b).2.1 := by decide +kernel
theorem tyJxb160c_ok : ∀ k, k < 0 → parseFieldDescriptor (TJxb160c k).2.2.1 = some (tyJxb160c k) := by decide +kernel
def RJx29ce0 : String := "java/lang/Enum"
def TJx29ce0 : u_T := fun k => match k with
  | _ => ("", "", "", false)
def tyJx29ce0 : Nat → FieldType := fun k => match k with
  | _ => .int
abbrev wsJx29ce00 : List Cond := u_ws RJx29ce0 TJx29ce0 0
theorem nmJx29ce0 : ∀ a, a < 0 → ∀ b, b < 0 → a ≠ b → (TJx29ce0 a).2.1 ≠ (TJx29ce0 b).2.1 := by decide +kernel
theorem tyJx29ce0_ok : ∀ k, k < 0 → parseFieldDescriptor (TJx29ce0 k).2.2.1 = some (tyJx29ce0 k) := by decide +kernel
def RJ6 : String := "java/lang/Integer"
def TJ6 : u_T := fun k => match k with
  | _ => ("", "", "", false)
def tyJ6 : Nat → FieldType := fun k => match k with
  | _ => .int
abbrev wsJ60 : List Cond := u_ws RJ6 TJ6 0
theorem nmJ6 : ∀ a, a < 0 → ∀ b, b < 0 → a ≠ b → (TJ6 a).2.1 ≠ (TJ6 b).2.1 := by decide +kernel
theorem tyJ6_ok : ∀ k, k < 0 → parseFieldDescriptor (TJ6 k).2.2.1 = some (tyJ6 k) := by decide +kernel
abbrev cJ6_getChars_ba4f3 : ByteArray := prog_24_method_12_code
def yJ6_getChars_ba4f3 : MethodName := ⟨RJ6, "getChars", "(II[B)I"⟩
abbrev cJ6_stringSize_0f7a4 : ByteArray := prog_24_method_13_code
def yJ6_stringSize_0f7a4 : MethodName := ⟨RJ6, "stringSize", "(I)I"⟩
abbrev cJ6_bitCount_0f7a4 : ByteArray := prog_24_method_49_code
def yJ6_bitCount_0f7a4 : MethodName := ⟨RJ6, "bitCount", "(I)I"⟩
def RJ9 : String := "java/lang/Math"
def TJ9 : u_T := fun k => match k with
  | _ => ("", "", "", false)
def tyJ9 : Nat → FieldType := fun k => match k with
  | _ => .int
abbrev wsJ90 : List Cond := u_ws RJ9 TJ9 0
theorem nmJ9 : ∀ a, a < 0 → ∀ b, b < 0 → a ≠ b → (TJ9 a).2.1 ≠ (TJ9 b).2.1 := by decide +kernel
theorem tyJ9_ok : ∀ k, k < 0 → parseFieldDescriptor (TJ9 k).2.2.1 = some (tyJ9 k) := by decide +kernel
abbrev cJ9_max_7cf53 : ByteArray := prog_25_method_65_code
def yJ9_max_7cf53 : MethodName := ⟨RJ9, "max", "(II)I"⟩
abbrev cJ9_min_7cf53 : ByteArray := prog_25_method_69_code
def yJ9_min_7cf53 : MethodName := ⟨RJ9, "min", "(II)I"⟩
def RJxd2413 : String := "java/lang/Number"
def TJxd2413 : u_T := fun k => match k with
  | _ => ("", "", "", false)
def tyJxd2413 : Nat → FieldType := fun k => match k with
  | _ => .int
abbrev wsJxd24130 : List Cond := u_ws RJxd2413 TJxd2413 0
theorem nmJxd2413 : ∀ a, a < 0 → ∀ b, b < 0 → a ≠ b → (TJxd2413 a).2.1 ≠ (TJxd2413 b).2.1 := by decide +kernel
theorem tyJxd2413_ok : ∀ k, k < 0 → parseFieldDescriptor (TJxd2413 k).2.2.1 = some (tyJxd2413 k) := by decide +kernel
def RJ0 : String := "java/lang/String"
def TJ0 : u_T := fun k => match k with
  | 0 => ("java/lang/String", "value", "[B", true)
  | 1 => ("java/lang/String", "coder", "B", true)
  | 2 => ("java/lang/String", "hash", "I", false)
  | _ => ("java/lang/String", "hashIsZero", "Z", false)
def tyJ0 : Nat → FieldType := fun k => match k with
  | 0 => .array .byte
  | 1 => .byte
  | 2 => .int
  | _ => .boolean
abbrev wsJ00 : List Cond := u_ws RJ0 TJ0 4
theorem nmJ0 : ∀ a, a < 4 → ∀ b, b < 4 → a ≠ b → (TJ0 a).2.1 ≠ (TJ0 b).2.1 := by decide +kernel
theorem tyJ0_ok : ∀ k, k < 4 → parseFieldDescriptor (TJ0 k).2.2.1 = some (tyJ0 k) := by decide +kernel
abbrev cJ0_init_81219 : ByteArray := prog_28_method_53_code
def yJ0_init_81219 : MethodName := ⟨RJ0, "<init>", "(Ljava/lang/StringBuilder;)V"⟩
abbrev cJ0_length_8abf5 : ByteArray := prog_28_method_54_code
def yJ0_length_8abf5 : MethodName := ⟨RJ0, "length", "()I"⟩
abbrev cJ0_charAt_5068e : ByteArray := prog_28_method_56_code
def yJ0_charAt_5068e : MethodName := ⟨RJ0, "charAt", "(I)C"⟩
abbrev cJ0_getBytes_840e7 : ByteArray := prog_28_method_147_code
def yJ0_getBytes_840e7 : MethodName := ⟨RJ0, "getBytes", "([BIB)V"⟩
abbrev cJ0_init_db425 : ByteArray := prog_28_method_150_code
def yJ0_init_db425 : MethodName := ⟨RJ0, "<init>", "(Ljava/lang/AbstractStringBuilder;Ljava/lang/Void;)V"⟩
abbrev cJ0_coder_7d493 : ByteArray := prog_28_method_152_code
def yJ0_coder_7d493 : MethodName := ⟨RJ0, "coder", "()B"⟩
abbrev cJ0_isLatin1_aae02 : ByteArray := prog_28_method_154_code
def yJ0_isLatin1_aae02 : MethodName := ⟨RJ0, "isLatin1", "()Z"⟩
abbrev cJ0_checkIndex_df160 : ByteArray := prog_28_method_155_code
def yJ0_checkIndex_df160 : MethodName := ⟨RJ0, "checkIndex", "(II)V"⟩
abbrev cJ0_checkBoundsOffCount_cabcc : ByteArray := prog_28_method_157_code
def yJ0_checkBoundsOffCount_cabcc : MethodName := ⟨RJ0, "checkBoundsOffCount", "(III)I"⟩
abbrev cJ0_checkBoundsBeginEnd_23922 : ByteArray := prog_28_method_158_code
def yJ0_checkBoundsBeginEnd_23922 : MethodName := ⟨RJ0, "checkBoundsBeginEnd", "(III)V"⟩
def RJ4 : String := "java/lang/StringBuilder"
def TJ4 : u_T := fun k => match k with
  | 0 => ("java/lang/AbstractStringBuilder", "value", "[B", false)
  | 1 => ("java/lang/AbstractStringBuilder", "coder", "B", false)
  | 2 => ("java/lang/AbstractStringBuilder", "maybeLatin1", "Z", false)
  | _ => ("java/lang/AbstractStringBuilder", "count", "I", false)
def tyJ4 : Nat → FieldType := fun k => match k with
  | 0 => .array .byte
  | 1 => .byte
  | 2 => .boolean
  | _ => .int
abbrev wsJ40 : List Cond := u_ws RJ4 TJ4 4
theorem nmJ4 : ∀ a, a < 4 → ∀ b, b < 4 → a ≠ b → (TJ4 a).2.1 ≠ (TJ4 b).2.1 := by decide +kernel
theorem tyJ4_ok : ∀ k, k < 4 → parseFieldDescriptor (TJ4 k).2.2.1 = some (tyJ4 k) := by decide +kernel
abbrev cJ4_init_da8c8 : ByteArray := prog_29_method_1_code
def yJ4_init_da8c8 : MethodName := ⟨RJ4, "<init>", "()V"⟩
abbrev cJ4_append_15ec4 : ByteArray := prog_29_method_7_code
def yJ4_append_15ec4 : MethodName := ⟨RJ4, "append", "(Ljava/lang/String;)Ljava/lang/StringBuilder;"⟩
abbrev cJ4_append_cf468 : ByteArray := prog_29_method_14_code
def yJ4_append_cf468 : MethodName := ⟨RJ4, "append", "(C)Ljava/lang/StringBuilder;"⟩
abbrev cJ4_append_bf812 : ByteArray := prog_29_method_15_code
def yJ4_append_bf812 : MethodName := ⟨RJ4, "append", "(I)Ljava/lang/StringBuilder;"⟩
abbrev cJ4_toString_0e30d : ByteArray := prog_29_method_42_code
def yJ4_toString_0e30d : MethodName := ⟨RJ4, "toString", "()Ljava/lang/String;"⟩
abbrev cJ4_length_8abf5 : ByteArray := prog_29_method_93_code
def yJ4_length_8abf5 : MethodName := ⟨RJ4, "length", "()I"⟩
def RJ1 : String := "java/lang/StringLatin1"
def TJ1 : u_T := fun k => match k with
  | _ => ("", "", "", false)
def tyJ1 : Nat → FieldType := fun k => match k with
  | _ => .int
abbrev wsJ10 : List Cond := u_ws RJ1 TJ1 0
theorem nmJ1 : ∀ a, a < 0 → ∀ b, b < 0 → a ≠ b → (TJ1 a).2.1 ≠ (TJ1 b).2.1 := by decide +kernel
theorem tyJ1_ok : ∀ k, k < 0 → parseFieldDescriptor (TJ1 k).2.2.1 = some (tyJ1 k) := by decide +kernel
abbrev cJ1_charAt_3b067 : ByteArray := prog_30_method_2_code
def yJ1_charAt_3b067 : MethodName := ⟨RJ1, "charAt", "([BI)C"⟩
abbrev cJ1_canEncode_fc78d : ByteArray := prog_30_method_3_code
def yJ1_canEncode_fc78d : MethodName := ⟨RJ1, "canEncode", "(C)Z"⟩
abbrev cJ1_inflate_0e8fd : ByteArray := prog_30_method_50_code
def yJ1_inflate_0e8fd : MethodName := ⟨RJ1, "inflate", "([BI[BII)V"⟩
def RJ2 : String := "java/lang/StringUTF16"
def TJ2 : u_T := fun k => match k with
  | _ => ("", "", "", false)
def tyJ2 : Nat → FieldType := fun k => match k with
  | _ => .int
abbrev wsJ20 : List Cond := u_ws RJ2 TJ2 0
theorem nmJ2 : ∀ a, a < 0 → ∀ b, b < 0 → a ≠ b → (TJ2 a).2.1 ≠ (TJ2 b).2.1 := by decide +kernel
theorem tyJ2_ok : ∀ k, k < 0 → parseFieldDescriptor (TJ2 k).2.2.1 = some (tyJ2 k) := by decide +kernel
abbrev cJ2_newBytesFor_77867 : ByteArray := prog_31_method_2_code
def yJ2_newBytesFor_77867 : MethodName := ⟨RJ2, "newBytesFor", "(I)[B"⟩
abbrev cJ2_newBytesLength_0f7a4 : ByteArray := prog_31_method_3_code
def yJ2_newBytesLength_0f7a4 : MethodName := ⟨RJ2, "newBytesLength", "(I)I"⟩
abbrev cJ2_putChar_b72d1 : ByteArray := prog_31_method_4_code
def yJ2_putChar_b72d1 : MethodName := ⟨RJ2, "putChar", "([BII)V"⟩
abbrev cJ2_getChar_3b067 : ByteArray := prog_31_method_5_code
def yJ2_getChar_3b067 : MethodName := ⟨RJ2, "getChar", "([BI)C"⟩
abbrev cJ2_length_9d52b : ByteArray := prog_31_method_6_code
def yJ2_length_9d52b : MethodName := ⟨RJ2, "length", "([B)I"⟩
abbrev cJ2_coderFromArrayLen_85cad : ByteArray := prog_31_method_15_code
def yJ2_coderFromArrayLen_85cad : MethodName := ⟨RJ2, "coderFromArrayLen", "([BI)B"⟩
abbrev cJ2_compress_39247 : ByteArray := prog_31_method_17_code
def yJ2_compress_39247 : MethodName := ⟨RJ2, "compress", "([BII)[B"⟩
abbrev cJ2_compress_5af95 : ByteArray := prog_31_method_22_code
def yJ2_compress_5af95 : MethodName := ⟨RJ2, "compress", "([BI[BII)I"⟩
abbrev cJ2_putCharSB_b72d1 : ByteArray := prog_31_method_71_code
def yJ2_putCharSB_b72d1 : MethodName := ⟨RJ2, "putCharSB", "([BII)V"⟩
abbrev cJ2_getChars_46870 : ByteArray := prog_31_method_77_code
def yJ2_getChars_46870 : MethodName := ⟨RJ2, "getChars", "(III[B)I"⟩
abbrev cJ2_putCharsAt_cd4e5 : ByteArray := prog_31_method_81_code
def yJ2_putCharsAt_cd4e5 : MethodName := ⟨RJ2, "putCharsAt", "([BICCCC)I"⟩
abbrev cJ2_charAt_3b067 : ByteArray := prog_31_method_83_code
def yJ2_charAt_3b067 : MethodName := ⟨RJ2, "charAt", "([BI)C"⟩
abbrev cJ2_inflate_0e8fd : ByteArray := prog_31_method_86_code
def yJ2_inflate_0e8fd : MethodName := ⟨RJ2, "inflate", "([BI[BII)V"⟩
abbrev cJ2_getChars_ba4f3 : ByteArray := prog_31_method_89_code
def yJ2_getChars_ba4f3 : MethodName := ⟨RJ2, "getChars", "(II[B)I"⟩
abbrev cJ2_checkIndex_2214a : ByteArray := prog_31_method_91_code
def yJ2_checkIndex_2214a : MethodName := ⟨RJ2, "checkIndex", "(I[B)V"⟩
abbrev cJ2_checkBoundsBeginEnd_d044e : ByteArray := prog_31_method_93_code
def yJ2_checkBoundsBeginEnd_d044e : MethodName := ⟨RJ2, "checkBoundsBeginEnd", "(II[B)V"⟩
abbrev cJ2_checkBoundsOffCount_d044e : ByteArray := prog_31_method_94_code
def yJ2_checkBoundsOffCount_d044e : MethodName := ⟨RJ2, "checkBoundsOffCount", "(II[B)V"⟩
def RJ10 : String := "java/lang/System"
def TJ10 : u_T := fun k => match k with
  | _ => ("", "", "", false)
def tyJ10 : Nat → FieldType := fun k => match k with
  | _ => .int
abbrev wsJ100 : List Cond := u_ws RJ10 TJ10 0
theorem nmJ10 : ∀ a, a < 0 → ∀ b, b < 0 → a ≠ b → (TJ10 a).2.1 ≠ (TJ10 b).2.1 := by decide +kernel
theorem tyJ10_ok : ∀ k, k < 0 → parseFieldDescriptor (TJ10 k).2.2.1 = some (tyJ10 k) := by decide +kernel
def RJxfd54e : String := "java/lang/constant/Constable"
def TJxfd54e : u_T := fun k => match k with
  | _ => ("", "", "", false)
def tyJxfd54e : Nat → FieldType := fun k => match k with
  | _ => .int
abbrev wsJxfd54e0 : List Cond := u_ws RJxfd54e TJxfd54e 0
theorem nmJxfd54e : ∀ a, a < 0 → ∀ b, b < 0 → a ≠ b → (TJxfd54e a).2.1 ≠ (TJxfd54e b).2.1 := by decide +kernel
theorem tyJxfd54e_ok : ∀ k, k < 0 → parseFieldDescriptor (TJxfd54e k).2.2.1 = some (tyJxfd54e k) := by decide +kernel
def RJx3cf43 : String := "java/lang/constant/ConstantDesc"
def TJx3cf43 : u_T := fun k => match k with
  | _ => ("", "", "", false)
def tyJx3cf43 : Nat → FieldType := fun k => match k with
  | _ => .int
abbrev wsJx3cf430 : List Cond := u_ws RJx3cf43 TJx3cf43 0
theorem nmJx3cf43 : ∀ a, a < 0 → ∀ b, b < 0 → a ≠ b → (TJx3cf43 a).2.1 ≠ (TJx3cf43 b).2.1 := by decide +kernel
theorem tyJx3cf43_ok : ∀ k, k < 0 → parseFieldDescriptor (TJx3cf43 k).2.2.1 = some (tyJx3cf43 k) := by decide +kernel
def RJ7 : String := "java/util/Arrays"
def TJ7 : u_T := fun k => match k with
  | _ => ("", "", "", false)
def tyJ7 : Nat → FieldType := fun k => match k with
  | _ => .int
abbrev wsJ70 : List Cond := u_ws RJ7 TJ7 0
theorem nmJ7 : ∀ a, a < 0 → ∀ b, b < 0 → a ≠ b → (TJ7 a).2.1 ≠ (TJ7 b).2.1 := by decide +kernel
theorem tyJ7_ok : ∀ k, k < 0 → parseFieldDescriptor (TJ7 k).2.2.1 = some (tyJ7 k) := by decide +kernel
abbrev cJ7_copyOf_9075b : ByteArray := prog_36_method_121_code
def yJ7_copyOf_9075b : MethodName := ⟨RJ7, "copyOf", "([BI)[B"⟩
abbrev cJ7_checkLength_df160 : ByteArray := prog_36_method_131_code
def yJ7_checkLength_df160 : MethodName := ⟨RJ7, "checkLength", "(II)V"⟩
abbrev cJ7_copyOfRange_39247 : ByteArray := prog_36_method_132_code
def yJ7_copyOfRange_39247 : MethodName := ⟨RJ7, "copyOfRange", "([BII)[B"⟩
abbrev cJ7_copyOfRangeByte_39247 : ByteArray := prog_36_method_133_code
def yJ7_copyOfRangeByte_39247 : MethodName := ⟨RJ7, "copyOfRangeByte", "([BII)[B"⟩
def RJ8 : String := "jdk/internal/util/ArraysSupport"
def TJ8 : u_T := fun k => match k with
  | _ => ("", "", "", false)
def tyJ8 : Nat → FieldType := fun k => match k with
  | _ => .int
abbrev wsJ80 : List Cond := u_ws RJ8 TJ8 0
theorem nmJ8 : ∀ a, a < 0 → ∀ b, b < 0 → a ≠ b → (TJ8 a).2.1 ≠ (TJ8 b).2.1 := by decide +kernel
theorem tyJ8_ok : ∀ k, k < 0 → parseFieldDescriptor (TJ8 k).2.2.1 = some (tyJ8 k) := by decide +kernel
abbrev cJ8_newLength_cabcc : ByteArray := prog_38_method_27_code
def yJ8_newLength_cabcc : MethodName := ⟨RJ8, "newLength", "(III)I"⟩
abbrev cJ8_hugeLength_7cf53 : ByteArray := prog_38_method_28_code
def yJ8_hugeLength_7cf53 : MethodName := ⟨RJ8, "hugeLength", "(II)I"⟩
def RJ3 : String := "jdk/internal/util/Preconditions"
def TJ3 : u_T := fun k => match k with
  | _ => ("", "", "", false)
def tyJ3 : Nat → FieldType := fun k => match k with
  | _ => .int
abbrev wsJ30 : List Cond := u_ws RJ3 TJ3 0
theorem nmJ3 : ∀ a, a < 0 → ∀ b, b < 0 → a ≠ b → (TJ3 a).2.1 ≠ (TJ3 b).2.1 := by decide +kernel
theorem tyJ3_ok : ∀ k, k < 0 → parseFieldDescriptor (TJ3 k).2.2.1 = some (tyJ3 k) := by decide +kernel
abbrev cJ3_checkIndex_8e157 : ByteArray := prog_39_method_11_code
def yJ3_checkIndex_8e157 : MethodName := ⟨RJ3, "checkIndex", "(IILjava/util/function/BiFunction;)I"⟩
abbrev cJ3_checkFromToIndex_8c36e : ByteArray := prog_39_method_12_code
def yJ3_checkFromToIndex_8c36e : MethodName := ⟨RJ3, "checkFromToIndex", "(IIILjava/util/function/BiFunction;)I"⟩
abbrev cJ3_checkFromIndexSize_8c36e : ByteArray := prog_39_method_13_code
def yJ3_checkFromIndexSize_8c36e : MethodName := ⟨RJ3, "checkFromIndexSize", "(IIILjava/util/function/BiFunction;)I"⟩
def RL : String := "BarrierFlowLaw"
abbrev cL_cell : ByteArray := method_2_code
def yL_cell : MethodName := ⟨RL, "cell", "([II)I"⟩
abbrev cL_draw : ByteArray := method_3_code
def yL_draw : MethodName := ⟨RL, "draw", "([IIII)I"⟩
abbrev cL_feed : ByteArray := method_4_code
def yL_feed : MethodName := ⟨RL, "feed", "(LBarrierFlow;Ljava/lang/String;)V"⟩
abbrev cL_parsed : ByteArray := method_5_code
def yL_parsed : MethodName := ⟨RL, "parsed", "(LBarrierFlow;Ljava/lang/String;)I"⟩
abbrev cL_begun : ByteArray := method_6_code
def yL_begun : MethodName := ⟨RL, "begun", "(LBarrierFlow;Z)I"⟩
abbrev cL_setup : ByteArray := method_7_code
def yL_setup : MethodName := ⟨RL, "setup", "([I)Ljava/lang/String;"⟩
abbrev cL_act : ByteArray := method_8_code
def yL_act : MethodName := ⟨RL, "act", "(LBarrierFlow;[II)V"⟩
abbrev cL_isOnce : ByteArray := method_9_code
def yL_isOnce : MethodName := ⟨RL, "isOnce", "(LBarrierFlow;)Z"⟩
abbrev cL_areSums : ByteArray := method_10_code
def yL_areSums : MethodName := ⟨RL, "areSums", "(LBarrierFlow;)Z"⟩
abbrev cL_law : ByteArray := code
def yL_law : MethodName := ⟨RL, "law", "([I)Z"⟩
/-- a String that is made; a builder -/
def RS9 : String := "java/lang/String"
def TS9 : u_T := fun k => match k with
  | 0 => ("java/lang/String", "value", "[B", true)
  | 1 => ("java/lang/String", "coder", "B", true)
  | 2 => ("java/lang/String", "hash", "I", false)
  | _ => ("java/lang/String", "hashIsZero", "Z", false)
def tyS9 : Nat → FieldType := fun k => match k with
  | 0 => .array .byte
  | 1 => .byte
  | 2 => .int
  | _ => .boolean
abbrev wsS90 : List Cond := u_ws RS9 TS9 4
theorem nmS9 : ∀ a, a < 4 → ∀ b, b < 4 → a ≠ b → (TS9 a).2.1 ≠ (TS9 b).2.1 := by decide +kernel
theorem tyS9_ok : ∀ k, k < 4 → parseFieldDescriptor (TS9 k).2.2.1 = some (tyS9 k) := by decide +kernel
def RS10 : String := "java/lang/StringBuilder"
def TS10 : u_T := fun k => match k with
  | 0 => ("java/lang/AbstractStringBuilder", "value", "[B", false)
  | 1 => ("java/lang/AbstractStringBuilder", "coder", "B", false)
  | 2 => ("java/lang/AbstractStringBuilder", "maybeLatin1", "Z", false)
  | _ => ("java/lang/AbstractStringBuilder", "count", "I", false)
def tyS10 : Nat → FieldType := fun k => match k with
  | 0 => .array .byte
  | 1 => .byte
  | 2 => .boolean
  | _ => .int
abbrev wsS100 : List Cond := u_ws RS10 TS10 4
theorem nmS10 : ∀ a, a < 4 → ∀ b, b < 4 → a ≠ b → (TS10 a).2.1 ≠ (TS10 b).2.1 := by decide +kernel
theorem tyS10_ok : ∀ k, k < 4 → parseFieldDescriptor (TS10 k).2.2.1 = some (tyS10 k) := by decide +kernel
