/-! ===== BEGIN printed: names, fields, word lists, decode rows ===== -/
def RX0 : String := "GatheringCache$History"
def TX0 : u_T := fun k => match k with
  | 0 => ("GatheringCache$History", "states", "[LGatheringCache$State;", true)
  | 1 => ("GatheringCache$History", "size", "I", false)
  | _ => ("GatheringCache$History", "next", "I", false)
def tyX0 : Nat → FieldType := fun k => match k with
  | 0 => .array (.object "GatheringCache$State")
  | 1 => .int
  | _ => .int
abbrev wsX00 : List Cond := u_ws RX0 TX0 3
theorem nmX0 : ∀ a, a < 3 → ∀ b, b < 3 → a ≠ b → (TX0 a).2.1 ≠ (TX0 b).2.1 := by decide +kernel
theorem tyX0_ok : ∀ k, k < 3 → parseFieldDescriptor (TX0 k).2.2.1 = some (tyX0 k) := by decide +kernel
abbrev cX0_init : ByteArray := prog_2_method_1_code
def yX0_init : MethodName := ⟨RX0, "<init>", "()V"⟩
abbrev cX0_save : ByteArray := prog_2_method_2_code
def yX0_save : MethodName := ⟨RX0, "save", "(LGatheringCache$State;)V"⟩
abbrev cX0_restore : ByteArray := prog_2_method_3_code
def yX0_restore : MethodName := ⟨RX0, "restore", "(LGatheringCache$State;)V"⟩
def RX1 : String := "GatheringCache$State"
def TX1 : u_T := fun k => match k with
  | 0 => ("GatheringCache$State", "stick", "LGatheringCache$Stick;", true)
  | 1 => ("GatheringCache$State", "diskValues", "[I", true)
  | 2 => ("GatheringCache$State", "diskStamps", "[I", true)
  | 3 => ("GatheringCache$State", "latestStamps", "[I", true)
  | 4 => ("GatheringCache$State", "counts", "[I", true)
  | 5 => ("GatheringCache$State", "lastStamp", "I", false)
  | _ => ("GatheringCache$State", "on", "Z", false)
def tyX1 : Nat → FieldType := fun k => match k with
  | 0 => .object "GatheringCache$Stick"
  | 1 => .array .int
  | 2 => .array .int
  | 3 => .array .int
  | 4 => .array .int
  | 5 => .int
  | _ => .boolean
abbrev wsX10 : List Cond := u_ws RX1 TX1 7
theorem nmX1 : ∀ a, a < 7 → ∀ b, b < 7 → a ≠ b → (TX1 a).2.1 ≠ (TX1 b).2.1 := by decide +kernel
theorem tyX1_ok : ∀ k, k < 7 → parseFieldDescriptor (TX1 k).2.2.1 = some (tyX1 k) := by decide +kernel
abbrev cX1_init : ByteArray := prog_3_method_1_code
def yX1_init : MethodName := ⟨RX1, "<init>", "()V"⟩
abbrev cX1_copyFrom : ByteArray := prog_3_method_2_code
def yX1_copyFrom : MethodName := ⟨RX1, "copyFrom", "(LGatheringCache$State;)V"⟩
abbrev cX1_canDestage : ByteArray := prog_3_method_3_code
def yX1_canDestage : MethodName := ⟨RX1, "canDestage", "()Z"⟩
abbrev cX1_gathers : ByteArray := prog_3_method_4_code
def yX1_gathers : MethodName := ⟨RX1, "gathers", "()Z"⟩
abbrev cX1_diskValueOf : ByteArray := prog_3_method_5_code
def yX1_diskValueOf : MethodName := ⟨RX1, "diskValueOf", "(I)I"⟩
abbrev cX1_putOnDisk : ByteArray := prog_3_method_6_code
def yX1_putOnDisk : MethodName := ⟨RX1, "putOnDisk", "(III)V"⟩
abbrev cX1_countWrittenTogether : ByteArray := prog_3_method_7_code
def yX1_countWrittenTogether : MethodName := ⟨RX1, "countWrittenTogether", "(I)V"⟩
abbrev cX1_writeBlock : ByteArray := prog_3_method_8_code
def yX1_writeBlock : MethodName := ⟨RX1, "writeBlock", "(II)I"⟩
abbrev cX1_gather : ByteArray := prog_3_method_9_code
def yX1_gather : MethodName := ⟨RX1, "gather", "(II)V"⟩
abbrev cX1_writeThrough : ByteArray := prog_3_method_10_code
def yX1_writeThrough : MethodName := ⟨RX1, "writeThrough", "(II)V"⟩
abbrev cX1_readBlock : ByteArray := prog_3_method_11_code
def yX1_readBlock : MethodName := ⟨RX1, "readBlock", "(I)I"⟩
abbrev cX1_destageStripe : ByteArray := prog_3_method_12_code
def yX1_destageStripe : MethodName := ⟨RX1, "destageStripe", "(I)I"⟩
abbrev cX1_destageStripes : ByteArray := prog_3_method_13_code
def yX1_destageStripes : MethodName := ⟨RX1, "destageStripes", "()I"⟩
abbrev cX1_letPass : ByteArray := prog_3_method_14_code
def yX1_letPass : MethodName := ⟨RX1, "letPass", "(I)V"⟩
abbrev cX1_switchPower : ByteArray := prog_3_method_15_code
def yX1_switchPower : MethodName := ⟨RX1, "switchPower", "(Z)I"⟩
abbrev cX1_placeStick : ByteArray := prog_3_method_16_code
def yX1_placeStick : MethodName := ⟨RX1, "placeStick", "(Z)I"⟩
abbrev cX1_emptyOutdatedLines : ByteArray := prog_3_method_17_code
def yX1_emptyOutdatedLines : MethodName := ⟨RX1, "emptyOutdatedLines", "()I"⟩
abbrev cX1_finds : ByteArray := prog_3_method_18_code
def yX1_finds : MethodName := ⟨RX1, "finds", "(I)Z"⟩
abbrev cX1_operationsIfWritten : ByteArray := prog_3_method_19_code
def yX1_operationsIfWritten : MethodName := ⟨RX1, "operationsIfWritten", "(I)I"⟩
abbrev cX1_operationsIfDestaged : ByteArray := prog_3_method_20_code
def yX1_operationsIfDestaged : MethodName := ⟨RX1, "operationsIfDestaged", "()I"⟩
def RX2 : String := "GatheringCache$Stick"
def TX2 : u_T := fun k => match k with
  | 0 => ("GatheringCache$Stick", "blocks", "[I", true)
  | 1 => ("GatheringCache$Stick", "values", "[I", true)
  | 2 => ("GatheringCache$Stick", "stamps", "[I", true)
  | 3 => ("GatheringCache$Stick", "uses", "[I", true)
  | 4 => ("GatheringCache$Stick", "dirty", "[Z", true)
  | 5 => ("GatheringCache$Stick", "lastUse", "I", false)
  | 6 => ("GatheringCache$Stick", "limit", "I", false)
  | 7 => ("GatheringCache$Stick", "charge", "I", false)
  | _ => ("GatheringCache$Stick", "in", "Z", false)
def tyX2 : Nat → FieldType := fun k => match k with
  | 0 => .array .int
  | 1 => .array .int
  | 2 => .array .int
  | 3 => .array .int
  | 4 => .array .boolean
  | 5 => .int
  | 6 => .int
  | 7 => .int
  | _ => .boolean
abbrev wsX20 : List Cond := u_ws RX2 TX2 9
theorem nmX2 : ∀ a, a < 9 → ∀ b, b < 9 → a ≠ b → (TX2 a).2.1 ≠ (TX2 b).2.1 := by decide +kernel
theorem tyX2_ok : ∀ k, k < 9 → parseFieldDescriptor (TX2 k).2.2.1 = some (tyX2 k) := by decide +kernel
abbrev cX2_init : ByteArray := prog_4_method_1_code
def yX2_init : MethodName := ⟨RX2, "<init>", "()V"⟩
abbrev cX2_copyFrom : ByteArray := prog_4_method_2_code
def yX2_copyFrom : MethodName := ⟨RX2, "copyFrom", "(LGatheringCache$Stick;)V"⟩
abbrev cX2_lineOf : ByteArray := prog_4_method_3_code
def yX2_lineOf : MethodName := ⟨RX2, "lineOf", "(I)I"⟩
abbrev cX2_lineInReach : ByteArray := prog_4_method_4_code
def yX2_lineInReach : MethodName := ⟨RX2, "lineInReach", "(I)I"⟩
abbrev cX2_freeLine : ByteArray := prog_4_method_5_code
def yX2_freeLine : MethodName := ⟨RX2, "freeLine", "(I)I"⟩
abbrev cX2_fullestStripe : ByteArray := prog_4_method_6_code
def yX2_fullestStripe : MethodName := ⟨RX2, "fullestStripe", "(I)I"⟩
abbrev cX2_fill : ByteArray := prog_4_method_7_code
def yX2_fill : MethodName := ⟨RX2, "fill", "(IIIIZ)V"⟩
abbrev cX2_use : ByteArray := prog_4_method_8_code
def yX2_use : MethodName := ⟨RX2, "use", "(I)V"⟩
abbrev cX2_empty : ByteArray := prog_4_method_9_code
def yX2_empty : MethodName := ⟨RX2, "empty", "(I)V"⟩
abbrev cX2_isDirtyOf : ByteArray := prog_4_method_10_code
def yX2_isDirtyOf : MethodName := ⟨RX2, "isDirtyOf", "(II)Z"⟩
abbrev cX2_dirtyLinesOf : ByteArray := prog_4_method_11_code
def yX2_dirtyLinesOf : MethodName := ⟨RX2, "dirtyLinesOf", "(I)I"⟩
abbrev cX2_dirtyLines : ByteArray := prog_4_method_12_code
def yX2_dirtyLines : MethodName := ⟨RX2, "dirtyLines", "()I"⟩
abbrev cX2_usedLines : ByteArray := prog_4_method_13_code
def yX2_usedLines : MethodName := ⟨RX2, "usedLines", "()I"⟩
abbrev cX2_partOf : ByteArray := prog_4_method_14_code
def yX2_partOf : MethodName := ⟨RX2, "partOf", "(II)I"⟩
abbrev cX2_limitTo : ByteArray := prog_4_method_15_code
def yX2_limitTo : MethodName := ⟨RX2, "limitTo", "(I)V"⟩
abbrev cX2_load : ByteArray := prog_4_method_16_code
def yX2_load : MethodName := ⟨RX2, "load", "()V"⟩
abbrev cX2_drain : ByteArray := prog_4_method_17_code
def yX2_drain : MethodName := ⟨RX2, "drain", "()I"⟩
def RX3 : String := "GatheringCache$Text"
def TX3 : u_T := fun k => match k with
  | 0 => ("GatheringCache$Text", "characters", "[C", true)
  | 1 => ("GatheringCache$Text", "length", "I", false)
  | 2 => ("GatheringCache$Text", "cursor", "I", false)
  | 3 => ("GatheringCache$Text", "command", "I", false)
  | 4 => ("GatheringCache$Text", "first", "I", false)
  | _ => ("GatheringCache$Text", "second", "I", false)
def tyX3 : Nat → FieldType := fun k => match k with
  | 0 => .array .char
  | 1 => .int
  | 2 => .int
  | 3 => .int
  | 4 => .int
  | _ => .int
abbrev wsX30 : List Cond := u_ws RX3 TX3 6
theorem nmX3 : ∀ a, a < 6 → ∀ b, b < 6 → a ≠ b → (TX3 a).2.1 ≠ (TX3 b).2.1 := by decide +kernel
theorem tyX3_ok : ∀ k, k < 6 → parseFieldDescriptor (TX3 k).2.2.1 = some (tyX3 k) := by decide +kernel
abbrev cX3_init : ByteArray := prog_5_method_1_code
def yX3_init : MethodName := ⟨RX3, "<init>", "()V"⟩
def RX4 : String := "GatheringCache"
def TX4 : u_T := fun k => match k with
  | 0 => ("GatheringCache", "now", "LGatheringCache$State;", true)
  | 1 => ("GatheringCache", "history", "LGatheringCache$History;", true)
  | _ => ("GatheringCache", "text", "LGatheringCache$Text;", true)
def tyX4 : Nat → FieldType := fun k => match k with
  | 0 => .object "GatheringCache$State"
  | 1 => .object "GatheringCache$History"
  | _ => .object "GatheringCache$Text"
abbrev wsX40 : List Cond := u_ws RX4 TX4 3
theorem nmX4 : ∀ a, a < 3 → ∀ b, b < 3 → a ≠ b → (TX4 a).2.1 ≠ (TX4 b).2.1 := by decide +kernel
theorem tyX4_ok : ∀ k, k < 3 → parseFieldDescriptor (TX4 k).2.2.1 = some (tyX4 k) := by decide +kernel
abbrev cX4_init : ByteArray := prog_1_method_1_code
def yX4_init : MethodName := ⟨RX4, "<init>", "()V"⟩
abbrev cX4_write : ByteArray := prog_1_method_2_code
def yX4_write : MethodName := ⟨RX4, "write", "(II)I"⟩
abbrev cX4_read : ByteArray := prog_1_method_3_code
def yX4_read : MethodName := ⟨RX4, "read", "(I)I"⟩
abbrev cX4_destage : ByteArray := prog_1_method_4_code
def yX4_destage : MethodName := ⟨RX4, "destage", "(I)I"⟩
abbrev cX4_destageAll : ByteArray := prog_1_method_5_code
def yX4_destageAll : MethodName := ⟨RX4, "destageAll", "()I"⟩
abbrev cX4_pass : ByteArray := prog_1_method_6_code
def yX4_pass : MethodName := ⟨RX4, "pass", "(I)I"⟩
abbrev cX4_setLimit : ByteArray := prog_1_method_7_code
def yX4_setLimit : MethodName := ⟨RX4, "setLimit", "(I)I"⟩
abbrev cX4_power : ByteArray := prog_1_method_8_code
def yX4_power : MethodName := ⟨RX4, "power", "(Z)I"⟩
abbrev cX4_moveStick : ByteArray := prog_1_method_9_code
def yX4_moveStick : MethodName := ⟨RX4, "moveStick", "(Z)I"⟩
abbrev cX4_undo : ByteArray := prog_1_method_14_code
def yX4_undo : MethodName := ⟨RX4, "undo", "()I"⟩
abbrev cX4_isOn : ByteArray := prog_1_method_15_code
def yX4_isOn : MethodName := ⟨RX4, "isOn", "()Z"⟩
abbrev cX4_isIn : ByteArray := prog_1_method_16_code
def yX4_isIn : MethodName := ⟨RX4, "isIn", "()Z"⟩
abbrev cX4_charge : ByteArray := prog_1_method_17_code
def yX4_charge : MethodName := ⟨RX4, "charge", "()I"⟩
abbrev cX4_line : ByteArray := prog_1_method_18_code
def yX4_line : MethodName := ⟨RX4, "line", "(III)I"⟩
abbrev cX4_dirtyOf : ByteArray := prog_1_method_19_code
def yX4_dirtyOf : MethodName := ⟨RX4, "dirtyOf", "(I)I"⟩
abbrev cX4_dirty : ByteArray := prog_1_method_20_code
def yX4_dirty : MethodName := ⟨RX4, "dirty", "()I"⟩
abbrev cX4_used : ByteArray := prog_1_method_21_code
def yX4_used : MethodName := ⟨RX4, "used", "()I"⟩
abbrev cX4_onDisk : ByteArray := prog_1_method_22_code
def yX4_onDisk : MethodName := ⟨RX4, "onDisk", "(I)I"⟩
abbrev cX4_isFound : ByteArray := prog_1_method_23_code
def yX4_isFound : MethodName := ⟨RX4, "isFound", "(I)Z"⟩
abbrev cX4_missing : ByteArray := prog_1_method_24_code
def yX4_missing : MethodName := ⟨RX4, "missing", "()I"⟩
abbrev cX4_ifWritten : ByteArray := prog_1_method_25_code
def yX4_ifWritten : MethodName := ⟨RX4, "ifWritten", "(I)I"⟩
abbrev cX4_ifDestaged : ByteArray := prog_1_method_26_code
def yX4_ifDestaged : MethodName := ⟨RX4, "ifDestaged", "()I"⟩
abbrev cX4_ticksToLoss : ByteArray := prog_1_method_27_code
def yX4_ticksToLoss : MethodName := ⟨RX4, "ticksToLoss", "()I"⟩
abbrev cX4_count : ByteArray := prog_1_method_28_code
def yX4_count : MethodName := ⟨RX4, "count", "(I)I"⟩
abbrev cX4_blocksPerStripe : ByteArray := prog_1_method_29_code
def yX4_blocksPerStripe : MethodName := ⟨RX4, "blocksPerStripe", "()F"⟩
abbrev cX4_savedStates : ByteArray := prog_1_method_30_code
def yX4_savedStates : MethodName := ⟨RX4, "savedStates", "()I"⟩
abbrev cX4_isBlock : ByteArray := prog_1_method_32_code
def yX4_isBlock : MethodName := ⟨RX4, "isBlock", "(I)Z"⟩
abbrev cX4_isLine : ByteArray := prog_1_method_33_code
def yX4_isLine : MethodName := ⟨RX4, "isLine", "(I)Z"⟩
abbrev cX4_stripeOf : ByteArray := prog_1_method_34_code
def yX4_stripeOf : MethodName := ⟨RX4, "stripeOf", "(I)I"⟩
abbrev cX4_requireBlock : ByteArray := prog_1_method_35_code
def yX4_requireBlock : MethodName := ⟨RX4, "requireBlock", "(I)V"⟩
abbrev cX4_requireStripe : ByteArray := prog_1_method_36_code
def yX4_requireStripe : MethodName := ⟨RX4, "requireStripe", "(I)V"⟩
abbrev cX4_requirePower : ByteArray := prog_1_method_37_code
def yX4_requirePower : MethodName := ⟨RX4, "requirePower", "()V"⟩
abbrev cX4_requireDestaging : ByteArray := prog_1_method_38_code
def yX4_requireDestaging : MethodName := ⟨RX4, "requireDestaging", "()V"⟩
abbrev cX4_readsToWrite : ByteArray := prog_1_method_40_code
def yX4_readsToWrite : MethodName := ⟨RX4, "readsToWrite", "(I)I"⟩
abbrev cX4_writesToWrite : ByteArray := prog_1_method_41_code
def yX4_writesToWrite : MethodName := ⟨RX4, "writesToWrite", "(I)I"⟩
abbrev cX4_operationsToWrite : ByteArray := prog_1_method_42_code
def yX4_operationsToWrite : MethodName := ⟨RX4, "operationsToWrite", "(I)I"⟩
def RX5 : String := "GatheringCacheModel"
def TX5 : u_T := fun k => match k with
  | _ => ("", "", "", false)
def tyX5 : Nat → FieldType := fun k => match k with
  | _ => .int
abbrev wsX50 : List Cond := u_ws RX5 TX5 0
theorem nmX5 : ∀ a, a < 0 → ∀ b, b < 0 → a ≠ b → (TX5 a).2.1 ≠ (TX5 b).2.1 := by decide +kernel
theorem tyX5_ok : ∀ k, k < 0 → parseFieldDescriptor (TX5 k).2.2.1 = some (tyX5 k) := by decide +kernel
def RJ9 : String := "java/lang/Math"
def TJ9 : u_T := fun k => match k with
  | _ => ("", "", "", false)
def tyJ9 : Nat → FieldType := fun k => match k with
  | _ => .int
abbrev wsJ90 : List Cond := u_ws RJ9 TJ9 0
theorem nmJ9 : ∀ a, a < 0 → ∀ b, b < 0 → a ≠ b → (TJ9 a).2.1 ≠ (TJ9 b).2.1 := by decide +kernel
theorem tyJ9_ok : ∀ k, k < 0 → parseFieldDescriptor (TJ9 k).2.2.1 = some (tyJ9 k) := by decide +kernel
abbrev cJ9_floorMod_7cf53 : ByteArray := prog_12_method_50_code
def yJ9_floorMod_7cf53 : MethodName := ⟨RJ9, "floorMod", "(II)I"⟩
abbrev cJ9_max_7cf53 : ByteArray := prog_12_method_65_code
def yJ9_max_7cf53 : MethodName := ⟨RJ9, "max", "(II)I"⟩
abbrev cJ9_min_7cf53 : ByteArray := prog_12_method_69_code
def yJ9_min_7cf53 : MethodName := ⟨RJ9, "min", "(II)I"⟩
def RJ0 : String := "java/lang/String"
def TJ0 : u_T := fun k => match k with
  | _ => ("", "", "", false)
def tyJ0 : Nat → FieldType := fun k => match k with
  | _ => .int
abbrev wsJ00 : List Cond := u_ws RJ0 TJ0 0
theorem nmJ0 : ∀ a, a < 0 → ∀ b, b < 0 → a ≠ b → (TJ0 a).2.1 ≠ (TJ0 b).2.1 := by decide +kernel
theorem tyJ0_ok : ∀ k, k < 0 → parseFieldDescriptor (TJ0 k).2.2.1 = some (tyJ0 k) := by decide +kernel
def RJ10 : String := "java/lang/System"
def TJ10 : u_T := fun k => match k with
  | _ => ("", "", "", false)
def tyJ10 : Nat → FieldType := fun k => match k with
  | _ => .int
abbrev wsJ100 : List Cond := u_ws RJ10 TJ10 0
theorem nmJ10 : ∀ a, a < 0 → ∀ b, b < 0 → a ≠ b → (TJ10 a).2.1 ≠ (TJ10 b).2.1 := by decide +kernel
theorem tyJ10_ok : ∀ k, k < 0 → parseFieldDescriptor (TJ10 k).2.2.1 = some (tyJ10 k) := by decide +kernel
def RL : String := "GatheringCacheLaw"
abbrev cL_cell : ByteArray := method_2_code
def yL_cell : MethodName := ⟨RL, "cell", "([II)I"⟩
abbrev cL_up : ByteArray := method_3_code
def yL_up : MethodName := ⟨RL, "up", "(II)I"⟩
abbrev cL_told : ByteArray := method_4_code
def yL_told : MethodName := ⟨RL, "told", "(LGatheringCache;)J"⟩
abbrev cL_lineOf : ByteArray := method_5_code
def yL_lineOf : MethodName := ⟨RL, "lineOf", "(LGatheringCache;I)I"⟩
abbrev cL_writes : ByteArray := method_6_code
def yL_writes : MethodName := ⟨RL, "writes", "(LGatheringCache;II)Z"⟩
abbrev cL_acts : ByteArray := method_7_code
def yL_acts : MethodName := ⟨RL, "acts", "(LGatheringCache;II)Z"⟩
abbrev cL_holds : ByteArray := method_8_code
def yL_holds : MethodName := ⟨RL, "holds", "(LGatheringCache;[I)Z"⟩
abbrev cL_law : ByteArray := code
def yL_law : MethodName := ⟨RL, "law", "([I)Z"⟩
def wsX2_init : List Cond := .code yX2_init cX2_init 2 none :: ([.methodLink RX2 3 objectInit, .instanceMethod objectInit, .code objectInit ⟨#[0xb1]⟩ 1 none, .arrayClass .int, .fieldLink RX2 9 "GatheringCache$Stick" "blocks" "[I", .fieldLink RX2 15 "GatheringCache$Stick" "values" "[I", .fieldLink RX2 18 "GatheringCache$Stick" "stamps" "[I", .fieldLink RX2 21 "GatheringCache$Stick" "uses" "[I", .arrayClass .boolean, .fieldLink RX2 24 "GatheringCache$Stick" "dirty" "[Z", .fieldLink RX2 28 "GatheringCache$Stick" "limit" "I", .fieldLink RX2 32 "GatheringCache$Stick" "charge" "I", .fieldLink RX2 35 "GatheringCache$Stick" "in" "Z"] ++ wsX20)
def wsX1_init_r1 : List Cond := [Cond.methodLink RX1 3 objectInit, Cond.instanceMethod objectInit, Cond.code objectInit ⟨#[0xb1]⟩ 1 none, Cond.classLink RX1 9 RX2, Cond.instantiable RX2 9, Cond.initialized RX2, Cond.fieldLink RX1 12 "GatheringCache$State" "stick" "LGatheringCache$Stick;", Cond.arrayClass .int, Cond.fieldLink RX1 18 "GatheringCache$State" "diskValues" "[I", Cond.fieldLink RX1 22 "GatheringCache$State" "diskStamps" "[I", Cond.fieldLink RX1 25 "GatheringCache$State" "latestStamps" "[I", Cond.fieldLink RX1 28 "GatheringCache$State" "counts" "[I", Cond.fieldLink RX1 31 "GatheringCache$State" "on" "Z", Cond.methodLink RX1 11 yX2_init, Cond.instanceMethod yX2_init, Cond.code yX2_init cX2_init 2 none, Cond.methodLink RX2 3 objectInit, Cond.fieldLink RX2 9 "GatheringCache$Stick" "blocks" "[I", Cond.fieldLink RX2 15 "GatheringCache$Stick" "values" "[I", Cond.fieldLink RX2 18 "GatheringCache$Stick" "stamps" "[I", Cond.fieldLink RX2 21 "GatheringCache$Stick" "uses" "[I", Cond.arrayClass .boolean, Cond.fieldLink RX2 24 "GatheringCache$Stick" "dirty" "[Z", Cond.fieldLink RX2 28 "GatheringCache$Stick" "limit" "I"]
def wsX1_init_r2 : List Cond := [Cond.fieldLink RX2 32 "GatheringCache$Stick" "charge" "I", Cond.fieldLink RX2 35 "GatheringCache$Stick" "in" "Z"]
def wsX1_init : List Cond := .code yX1_init cX1_init 1 none :: ((wsX1_init_r1 ++ wsX1_init_r2) ++ wsX20 ++ wsX10)
def wsX0_init_r1 : List Cond := [Cond.methodLink RX0 3 objectInit, Cond.instanceMethod objectInit, Cond.code objectInit ⟨#[0xb1]⟩ 1 none, Cond.classLink RX0 9 RX1, Cond.fieldLink RX0 11 "GatheringCache$History" "states" "[LGatheringCache$State;", Cond.instantiable RX1 7, Cond.initialized RX1, Cond.instanceMethod yX1_init, Cond.code yX1_init cX1_init 1 none, Cond.methodLink RX1 3 objectInit, Cond.classLink RX1 9 RX2, Cond.instantiable RX2 9, Cond.initialized RX2, Cond.fieldLink RX1 12 "GatheringCache$State" "stick" "LGatheringCache$Stick;", Cond.arrayClass .int, Cond.fieldLink RX1 18 "GatheringCache$State" "diskValues" "[I", Cond.fieldLink RX1 22 "GatheringCache$State" "diskStamps" "[I", Cond.fieldLink RX1 25 "GatheringCache$State" "latestStamps" "[I", Cond.fieldLink RX1 28 "GatheringCache$State" "counts" "[I", Cond.fieldLink RX1 31 "GatheringCache$State" "on" "Z", Cond.methodLink RX1 11 yX2_init, Cond.instanceMethod yX2_init, Cond.code yX2_init cX2_init 2 none, Cond.methodLink RX2 3 objectInit]
def wsX0_init_r2 : List Cond := [Cond.fieldLink RX2 9 "GatheringCache$Stick" "blocks" "[I", Cond.fieldLink RX2 15 "GatheringCache$Stick" "values" "[I", Cond.fieldLink RX2 18 "GatheringCache$Stick" "stamps" "[I", Cond.fieldLink RX2 21 "GatheringCache$Stick" "uses" "[I", Cond.arrayClass .boolean, Cond.fieldLink RX2 24 "GatheringCache$Stick" "dirty" "[Z", Cond.fieldLink RX2 28 "GatheringCache$Stick" "limit" "I", Cond.fieldLink RX2 32 "GatheringCache$Stick" "charge" "I", Cond.fieldLink RX2 35 "GatheringCache$Stick" "in" "Z"]
def wsX0_init : List Cond := .code yX0_init cX0_init 2 none :: ((wsX0_init_r1 ++ wsX0_init_r2) ++ wsX00 ++ wsX10 ++ wsX20)
def wsJ9_floorMod_7cf53 : List Cond := .code yJ9_floorMod_7cf53 cJ9_floorMod_7cf53 3 (some .int) :: ([])
def wsX2_copyFrom : List Cond := .code yX2_copyFrom cX2_copyFrom 3 none :: ([.fieldLink RX2 9 "GatheringCache$Stick" "blocks" "[I", .methodLink RX2 39 arraycopyName, .native arraycopyName, .static arraycopyName, .initialized "java/lang/System", .fieldLink RX2 15 "GatheringCache$Stick" "values" "[I", .fieldLink RX2 18 "GatheringCache$Stick" "stamps" "[I", .fieldLink RX2 21 "GatheringCache$Stick" "uses" "[I", .fieldLink RX2 24 "GatheringCache$Stick" "dirty" "[Z", .fieldLink RX2 45 "GatheringCache$Stick" "lastUse" "I", .fieldLink RX2 28 "GatheringCache$Stick" "limit" "I", .fieldLink RX2 32 "GatheringCache$Stick" "charge" "I", .fieldLink RX2 35 "GatheringCache$Stick" "in" "Z"] ++ wsX20)
def wsX1_copyFrom_r1 : List Cond := [Cond.fieldLink RX1 12 "GatheringCache$State" "stick" "LGatheringCache$Stick;", Cond.fieldLink RX1 18 "GatheringCache$State" "diskValues" "[I", Cond.methodLink RX1 39 arraycopyName, Cond.native arraycopyName, Cond.static arraycopyName, Cond.initialized "java/lang/System", Cond.fieldLink RX1 22 "GatheringCache$State" "diskStamps" "[I", Cond.fieldLink RX1 25 "GatheringCache$State" "latestStamps" "[I", Cond.fieldLink RX1 28 "GatheringCache$State" "counts" "[I", Cond.fieldLink RX1 45 "GatheringCache$State" "lastStamp" "I", Cond.fieldLink RX1 31 "GatheringCache$State" "on" "Z", Cond.methodLink RX1 35 yX2_copyFrom, Cond.instanceMethod yX2_copyFrom, Cond.selects RX2 yX2_copyFrom yX2_copyFrom, Cond.initialized RX2, Cond.code yX2_copyFrom cX2_copyFrom 3 none, Cond.fieldLink RX2 9 "GatheringCache$Stick" "blocks" "[I", Cond.methodLink RX2 39 arraycopyName, Cond.fieldLink RX2 15 "GatheringCache$Stick" "values" "[I", Cond.fieldLink RX2 18 "GatheringCache$Stick" "stamps" "[I", Cond.fieldLink RX2 21 "GatheringCache$Stick" "uses" "[I", Cond.fieldLink RX2 24 "GatheringCache$Stick" "dirty" "[Z", Cond.fieldLink RX2 45 "GatheringCache$Stick" "lastUse" "I", Cond.fieldLink RX2 28 "GatheringCache$Stick" "limit" "I"]
def wsX1_copyFrom_r2 : List Cond := [Cond.fieldLink RX2 32 "GatheringCache$Stick" "charge" "I", Cond.fieldLink RX2 35 "GatheringCache$Stick" "in" "Z"]
def wsX1_copyFrom : List Cond := .code yX1_copyFrom cX1_copyFrom 2 none :: ((wsX1_copyFrom_r1 ++ wsX1_copyFrom_r2) ++ wsX10 ++ wsX20)
def wsX0_save_r1 : List Cond := [Cond.fieldLink RX0 11 "GatheringCache$History" "states" "[LGatheringCache$State;", Cond.fieldLink RX0 18 "GatheringCache$History" "next" "I", Cond.fieldLink RX0 32 "GatheringCache$History" "size" "I", Cond.methodLink RX0 35 Lib.Math.min.name, Cond.static Lib.Math.min.name, Cond.initialized "java/lang/Math", Cond.code Lib.Math.min.name Lib.Math.min.code 2 (some .int), Cond.methodLink RX0 22 yJ9_floorMod_7cf53, Cond.static yJ9_floorMod_7cf53, Cond.initialized RJ9, Cond.code yJ9_floorMod_7cf53 cJ9_floorMod_7cf53 3 (some .int), Cond.methodLink RX0 28 yX1_copyFrom, Cond.instanceMethod yX1_copyFrom, Cond.selects RX1 yX1_copyFrom yX1_copyFrom, Cond.initialized RX1, Cond.code yX1_copyFrom cX1_copyFrom 2 none, Cond.fieldLink RX1 12 "GatheringCache$State" "stick" "LGatheringCache$Stick;", Cond.fieldLink RX1 18 "GatheringCache$State" "diskValues" "[I", Cond.methodLink RX1 39 arraycopyName, Cond.native arraycopyName, Cond.static arraycopyName, Cond.initialized "java/lang/System", Cond.fieldLink RX1 22 "GatheringCache$State" "diskStamps" "[I", Cond.fieldLink RX1 25 "GatheringCache$State" "latestStamps" "[I"]
def wsX0_save_r2 : List Cond := [Cond.fieldLink RX1 28 "GatheringCache$State" "counts" "[I", Cond.fieldLink RX1 45 "GatheringCache$State" "lastStamp" "I", Cond.fieldLink RX1 31 "GatheringCache$State" "on" "Z", Cond.methodLink RX1 35 yX2_copyFrom, Cond.instanceMethod yX2_copyFrom, Cond.selects RX2 yX2_copyFrom yX2_copyFrom, Cond.initialized RX2, Cond.code yX2_copyFrom cX2_copyFrom 3 none, Cond.fieldLink RX2 9 "GatheringCache$Stick" "blocks" "[I", Cond.methodLink RX2 39 arraycopyName, Cond.fieldLink RX2 15 "GatheringCache$Stick" "values" "[I", Cond.fieldLink RX2 18 "GatheringCache$Stick" "stamps" "[I", Cond.fieldLink RX2 21 "GatheringCache$Stick" "uses" "[I", Cond.fieldLink RX2 24 "GatheringCache$Stick" "dirty" "[Z", Cond.fieldLink RX2 45 "GatheringCache$Stick" "lastUse" "I", Cond.fieldLink RX2 28 "GatheringCache$Stick" "limit" "I", Cond.fieldLink RX2 32 "GatheringCache$Stick" "charge" "I", Cond.fieldLink RX2 35 "GatheringCache$Stick" "in" "Z"]
def wsX0_save : List Cond := .code yX0_save cX0_save 3 none :: ((wsX0_save_r1 ++ wsX0_save_r2) ++ wsX00 ++ wsX10 ++ wsX20)
def wsX0_restore_r1 : List Cond := [Cond.fieldLink RX0 18 "GatheringCache$History" "next" "I", Cond.fieldLink RX0 32 "GatheringCache$History" "size" "I", Cond.methodLink RX0 38 Lib.Math.max.name, Cond.static Lib.Math.max.name, Cond.initialized "java/lang/Math", Cond.code Lib.Math.max.name Lib.Math.max.code 2 (some .int), Cond.fieldLink RX0 11 "GatheringCache$History" "states" "[LGatheringCache$State;", Cond.methodLink RX0 22 yJ9_floorMod_7cf53, Cond.static yJ9_floorMod_7cf53, Cond.initialized RJ9, Cond.code yJ9_floorMod_7cf53 cJ9_floorMod_7cf53 3 (some .int), Cond.methodLink RX0 28 yX1_copyFrom, Cond.instanceMethod yX1_copyFrom, Cond.selects RX1 yX1_copyFrom yX1_copyFrom, Cond.initialized RX1, Cond.code yX1_copyFrom cX1_copyFrom 2 none, Cond.fieldLink RX1 12 "GatheringCache$State" "stick" "LGatheringCache$Stick;", Cond.fieldLink RX1 18 "GatheringCache$State" "diskValues" "[I", Cond.methodLink RX1 39 arraycopyName, Cond.native arraycopyName, Cond.static arraycopyName, Cond.initialized "java/lang/System", Cond.fieldLink RX1 22 "GatheringCache$State" "diskStamps" "[I", Cond.fieldLink RX1 25 "GatheringCache$State" "latestStamps" "[I"]
def wsX0_restore_r2 : List Cond := [Cond.fieldLink RX1 28 "GatheringCache$State" "counts" "[I", Cond.fieldLink RX1 45 "GatheringCache$State" "lastStamp" "I", Cond.fieldLink RX1 31 "GatheringCache$State" "on" "Z", Cond.methodLink RX1 35 yX2_copyFrom, Cond.instanceMethod yX2_copyFrom, Cond.selects RX2 yX2_copyFrom yX2_copyFrom, Cond.initialized RX2, Cond.code yX2_copyFrom cX2_copyFrom 3 none, Cond.fieldLink RX2 9 "GatheringCache$Stick" "blocks" "[I", Cond.methodLink RX2 39 arraycopyName, Cond.fieldLink RX2 15 "GatheringCache$Stick" "values" "[I", Cond.fieldLink RX2 18 "GatheringCache$Stick" "stamps" "[I", Cond.fieldLink RX2 21 "GatheringCache$Stick" "uses" "[I", Cond.fieldLink RX2 24 "GatheringCache$Stick" "dirty" "[Z", Cond.fieldLink RX2 45 "GatheringCache$Stick" "lastUse" "I", Cond.fieldLink RX2 28 "GatheringCache$Stick" "limit" "I", Cond.fieldLink RX2 32 "GatheringCache$Stick" "charge" "I", Cond.fieldLink RX2 35 "GatheringCache$Stick" "in" "Z"]
def wsX0_restore : List Cond := .code yX0_restore cX0_restore 3 none :: ((wsX0_restore_r1 ++ wsX0_restore_r2) ++ wsX00 ++ wsX10 ++ wsX20)
def wsX1_canDestage : List Cond := .code yX1_canDestage cX1_canDestage 1 (some .boolean) :: ([.fieldLink RX1 31 "GatheringCache$State" "on" "Z", .fieldLink RX1 12 "GatheringCache$State" "stick" "LGatheringCache$Stick;", .fieldLink RX1 49 "GatheringCache$Stick" "in" "Z"] ++ wsX10 ++ wsX20)
def wsX1_gathers : List Cond := .code yX1_gathers cX1_gathers 1 (some .boolean) :: ([.fieldLink RX1 12 "GatheringCache$State" "stick" "LGatheringCache$Stick;", .fieldLink RX1 49 "GatheringCache$Stick" "in" "Z", .fieldLink RX1 52 "GatheringCache$Stick" "charge" "I"] ++ wsX10 ++ wsX20)
def wsX4_isBlock : List Cond := .code yX4_isBlock cX4_isBlock 1 (some .boolean) :: ([])
def wsX1_diskValueOf : List Cond := .code yX1_diskValueOf cX1_diskValueOf 2 (some .int) :: ([.fieldLink RX1 18 "GatheringCache$State" "diskValues" "[I", .static yX4_isBlock, .initialized RX4, .code yX4_isBlock cX4_isBlock 1 (some .boolean)] ++ wsX10)
def wsX1_putOnDisk : List Cond := .code yX1_putOnDisk cX1_putOnDisk 4 none :: ([.fieldLink RX1 18 "GatheringCache$State" "diskValues" "[I", .fieldLink RX1 22 "GatheringCache$State" "diskStamps" "[I", .static yX4_isBlock, .initialized RX4, .code yX4_isBlock cX4_isBlock 1 (some .boolean)] ++ wsX10)
def wsX4_readsToWrite : List Cond := .code yX4_readsToWrite cX4_readsToWrite 1 (some .int) :: ([])
def wsX4_writesToWrite : List Cond := .code yX4_writesToWrite cX4_writesToWrite 1 (some .int) :: ([])
def wsX1_countWrittenTogether : List Cond := .code yX1_countWrittenTogether cX1_countWrittenTogether 2 none :: ([.fieldLink RX1 28 "GatheringCache$State" "counts" "[I", .static yX4_readsToWrite, .initialized RX4, .code yX4_readsToWrite cX4_readsToWrite 1 (some .int), .static yX4_writesToWrite, .code yX4_writesToWrite cX4_writesToWrite 1 (some .int)] ++ wsX10)
def wsX4_stripeOf : List Cond := .code yX4_stripeOf cX4_stripeOf 1 (some .int) :: ([])
def wsX2_lineOf : List Cond := .code yX2_lineOf cX2_lineOf 3 (some .int) :: ([.fieldLink RX2 9 "GatheringCache$Stick" "blocks" "[I"] ++ wsX20)
def wsX4_isLine : List Cond := .code yX4_isLine cX4_isLine 1 (some .boolean) :: ([])
def wsX2_freeLine : List Cond := .code yX2_freeLine cX2_freeLine 5 (some .int) :: ([.fieldLink RX2 24 "GatheringCache$Stick" "dirty" "[Z", .fieldLink RX2 9 "GatheringCache$Stick" "blocks" "[I", .fieldLink RX2 21 "GatheringCache$Stick" "uses" "[I"] ++ wsX20)
def wsX2_isDirtyOf : List Cond := .code yX2_isDirtyOf cX2_isDirtyOf 3 (some .boolean) :: ([.fieldLink RX2 24 "GatheringCache$Stick" "dirty" "[Z", .fieldLink RX2 9 "GatheringCache$Stick" "blocks" "[I", .static yX4_stripeOf, .initialized RX4, .code yX4_stripeOf cX4_stripeOf 1 (some .int)] ++ wsX20)
def wsX2_dirtyLinesOf : List Cond := .code yX2_dirtyLinesOf cX2_dirtyLinesOf 4 (some .int) :: ([.methodLink RX2 66 yX2_isDirtyOf, .instanceMethod yX2_isDirtyOf, .selects RX2 yX2_isDirtyOf yX2_isDirtyOf, .initialized RX2, .code yX2_isDirtyOf cX2_isDirtyOf 3 (some .boolean), .fieldLink RX2 24 "GatheringCache$Stick" "dirty" "[Z", .fieldLink RX2 9 "GatheringCache$Stick" "blocks" "[I", .static yX4_stripeOf, .initialized RX4, .code yX4_stripeOf cX4_stripeOf 1 (some .int)] ++ wsX20)
def wsX2_fullestStripe : List Cond := .code yX2_fullestStripe cX2_fullestStripe 5 (some .int) :: ([.methodLink RX2 52 yX2_dirtyLinesOf, .instanceMethod yX2_dirtyLinesOf, .selects RX2 yX2_dirtyLinesOf yX2_dirtyLinesOf, .initialized RX2, .code yX2_dirtyLinesOf cX2_dirtyLinesOf 4 (some .int), .methodLink RX2 66 yX2_isDirtyOf, .instanceMethod yX2_isDirtyOf, .selects RX2 yX2_isDirtyOf yX2_isDirtyOf, .code yX2_isDirtyOf cX2_isDirtyOf 3 (some .boolean), .fieldLink RX2 24 "GatheringCache$Stick" "dirty" "[Z", .fieldLink RX2 9 "GatheringCache$Stick" "blocks" "[I", .static yX4_stripeOf, .initialized RX4, .code yX4_stripeOf cX4_stripeOf 1 (some .int)] ++ wsX20)
def wsX1_destageStripe_r1 : List Cond := [Cond.fieldLink RX1 12 "GatheringCache$State" "stick" "LGatheringCache$Stick;", Cond.fieldLink RX1 123 "GatheringCache$Stick" "blocks" "[I", Cond.fieldLink RX1 113 "GatheringCache$Stick" "values" "[I", Cond.fieldLink RX1 126 "GatheringCache$Stick" "stamps" "[I", Cond.fieldLink RX1 129 "GatheringCache$Stick" "dirty" "[Z", Cond.fieldLink RX1 28 "GatheringCache$State" "counts" "[I", Cond.methodLink RX1 119 yX2_isDirtyOf, Cond.instanceMethod yX2_isDirtyOf, Cond.selects RX2 yX2_isDirtyOf yX2_isDirtyOf, Cond.initialized RX2, Cond.code yX2_isDirtyOf cX2_isDirtyOf 3 (some .boolean), Cond.fieldLink RX2 24 "GatheringCache$Stick" "dirty" "[Z", Cond.fieldLink RX2 9 "GatheringCache$Stick" "blocks" "[I", Cond.static yX4_stripeOf, Cond.initialized RX4, Cond.code yX4_stripeOf cX4_stripeOf 1 (some .int), Cond.methodLink RX1 99 yX1_putOnDisk, Cond.instanceMethod yX1_putOnDisk, Cond.selects RX1 yX1_putOnDisk yX1_putOnDisk, Cond.initialized RX1, Cond.code yX1_putOnDisk cX1_putOnDisk 4 none, Cond.fieldLink RX1 18 "GatheringCache$State" "diskValues" "[I", Cond.fieldLink RX1 22 "GatheringCache$State" "diskStamps" "[I", Cond.static yX4_isBlock]
def wsX1_destageStripe_r2 : List Cond := [Cond.code yX4_isBlock cX4_isBlock 1 (some .boolean), Cond.methodLink RX1 103 yX1_countWrittenTogether, Cond.instanceMethod yX1_countWrittenTogether, Cond.selects RX1 yX1_countWrittenTogether yX1_countWrittenTogether, Cond.code yX1_countWrittenTogether cX1_countWrittenTogether 2 none, Cond.static yX4_readsToWrite, Cond.code yX4_readsToWrite cX4_readsToWrite 1 (some .int), Cond.static yX4_writesToWrite, Cond.code yX4_writesToWrite cX4_writesToWrite 1 (some .int)]
def wsX1_destageStripe : List Cond := .code yX1_destageStripe cX1_destageStripe 4 (some .int) :: ((wsX1_destageStripe_r1 ++ wsX1_destageStripe_r2) ++ wsX10 ++ wsX20)
def wsX2_use : List Cond := .code yX2_use cX2_use 2 none :: ([.fieldLink RX2 45 "GatheringCache$Stick" "lastUse" "I", .fieldLink RX2 21 "GatheringCache$Stick" "uses" "[I", .static yX4_isLine, .initialized RX4, .code yX4_isLine cX4_isLine 1 (some .boolean)] ++ wsX20)
def wsX2_fill : List Cond := .code yX2_fill cX2_fill 6 none :: ([.fieldLink RX2 9 "GatheringCache$Stick" "blocks" "[I", .fieldLink RX2 15 "GatheringCache$Stick" "values" "[I", .fieldLink RX2 18 "GatheringCache$Stick" "stamps" "[I", .fieldLink RX2 24 "GatheringCache$Stick" "dirty" "[Z", .static yX4_isLine, .initialized RX4, .code yX4_isLine cX4_isLine 1 (some .boolean), .methodLink RX2 59 yX2_use, .instanceMethod yX2_use, .selects RX2 yX2_use yX2_use, .initialized RX2, .code yX2_use cX2_use 2 none, .fieldLink RX2 45 "GatheringCache$Stick" "lastUse" "I", .fieldLink RX2 21 "GatheringCache$Stick" "uses" "[I"] ++ wsX20)
def wsX1_gather_r1 : List Cond := [Cond.fieldLink RX1 12 "GatheringCache$State" "stick" "LGatheringCache$Stick;", Cond.fieldLink RX1 45 "GatheringCache$State" "lastStamp" "I", Cond.fieldLink RX1 28 "GatheringCache$State" "counts" "[I", Cond.static yX4_stripeOf, Cond.initialized RX4, Cond.code yX4_stripeOf cX4_stripeOf 1 (some .int), Cond.methodLink RX1 80 yX2_lineOf, Cond.instanceMethod yX2_lineOf, Cond.selects RX2 yX2_lineOf yX2_lineOf, Cond.initialized RX2, Cond.code yX2_lineOf cX2_lineOf 3 (some .int), Cond.fieldLink RX2 9 "GatheringCache$Stick" "blocks" "[I", Cond.static yX4_isLine, Cond.code yX4_isLine cX4_isLine 1 (some .boolean), Cond.methodLink RX1 86 yX2_freeLine, Cond.instanceMethod yX2_freeLine, Cond.selects RX2 yX2_freeLine yX2_freeLine, Cond.code yX2_freeLine cX2_freeLine 5 (some .int), Cond.fieldLink RX2 24 "GatheringCache$Stick" "dirty" "[Z", Cond.fieldLink RX2 21 "GatheringCache$Stick" "uses" "[I", Cond.methodLink RX1 89 yX2_fullestStripe, Cond.instanceMethod yX2_fullestStripe, Cond.selects RX2 yX2_fullestStripe yX2_fullestStripe, Cond.code yX2_fullestStripe cX2_fullestStripe 5 (some .int)]
def wsX1_gather_r2 : List Cond := [Cond.methodLink RX2 52 yX2_dirtyLinesOf, Cond.instanceMethod yX2_dirtyLinesOf, Cond.selects RX2 yX2_dirtyLinesOf yX2_dirtyLinesOf, Cond.code yX2_dirtyLinesOf cX2_dirtyLinesOf 4 (some .int), Cond.methodLink RX2 66 yX2_isDirtyOf, Cond.instanceMethod yX2_isDirtyOf, Cond.selects RX2 yX2_isDirtyOf yX2_isDirtyOf, Cond.code yX2_isDirtyOf cX2_isDirtyOf 3 (some .boolean), Cond.methodLink RX1 92 yX1_destageStripe, Cond.instanceMethod yX1_destageStripe, Cond.selects RX1 yX1_destageStripe yX1_destageStripe, Cond.initialized RX1, Cond.code yX1_destageStripe cX1_destageStripe 4 (some .int), Cond.fieldLink RX1 123 "GatheringCache$Stick" "blocks" "[I", Cond.fieldLink RX1 113 "GatheringCache$Stick" "values" "[I", Cond.fieldLink RX1 126 "GatheringCache$Stick" "stamps" "[I", Cond.fieldLink RX1 129 "GatheringCache$Stick" "dirty" "[Z", Cond.methodLink RX1 119 yX2_isDirtyOf, Cond.methodLink RX1 99 yX1_putOnDisk, Cond.instanceMethod yX1_putOnDisk, Cond.selects RX1 yX1_putOnDisk yX1_putOnDisk, Cond.code yX1_putOnDisk cX1_putOnDisk 4 none, Cond.fieldLink RX1 18 "GatheringCache$State" "diskValues" "[I", Cond.fieldLink RX1 22 "GatheringCache$State" "diskStamps" "[I"]
def wsX1_gather_r3 : List Cond := [Cond.static yX4_isBlock, Cond.code yX4_isBlock cX4_isBlock 1 (some .boolean), Cond.methodLink RX1 103 yX1_countWrittenTogether, Cond.instanceMethod yX1_countWrittenTogether, Cond.selects RX1 yX1_countWrittenTogether yX1_countWrittenTogether, Cond.code yX1_countWrittenTogether cX1_countWrittenTogether 2 none, Cond.static yX4_readsToWrite, Cond.code yX4_readsToWrite cX4_readsToWrite 1 (some .int), Cond.static yX4_writesToWrite, Cond.code yX4_writesToWrite cX4_writesToWrite 1 (some .int), Cond.methodLink RX1 95 yX2_fill, Cond.instanceMethod yX2_fill, Cond.selects RX2 yX2_fill yX2_fill, Cond.code yX2_fill cX2_fill 6 none, Cond.fieldLink RX2 15 "GatheringCache$Stick" "values" "[I", Cond.fieldLink RX2 18 "GatheringCache$Stick" "stamps" "[I", Cond.methodLink RX2 59 yX2_use, Cond.instanceMethod yX2_use, Cond.selects RX2 yX2_use yX2_use, Cond.code yX2_use cX2_use 2 none, Cond.fieldLink RX2 45 "GatheringCache$Stick" "lastUse" "I"]
def wsX1_gather : List Cond := .code yX1_gather cX1_gather 5 none :: ((wsX1_gather_r1 ++ (wsX1_gather_r2 ++ wsX1_gather_r3)) ++ wsX10 ++ wsX20)
def wsX2_lineInReach : List Cond := .code yX2_lineInReach cX2_lineInReach 2 (some .int) :: ([.fieldLink RX2 35 "GatheringCache$Stick" "in" "Z", .methodLink RX2 48 yX2_lineOf, .instanceMethod yX2_lineOf, .selects RX2 yX2_lineOf yX2_lineOf, .initialized RX2, .code yX2_lineOf cX2_lineOf 3 (some .int), .fieldLink RX2 9 "GatheringCache$Stick" "blocks" "[I"] ++ wsX20)
def wsX1_writeThrough_r1 : List Cond := [Cond.fieldLink RX1 45 "GatheringCache$State" "lastStamp" "I", Cond.fieldLink RX1 12 "GatheringCache$State" "stick" "LGatheringCache$Stick;", Cond.fieldLink RX1 28 "GatheringCache$State" "counts" "[I", Cond.methodLink RX1 99 yX1_putOnDisk, Cond.instanceMethod yX1_putOnDisk, Cond.selects RX1 yX1_putOnDisk yX1_putOnDisk, Cond.initialized RX1, Cond.code yX1_putOnDisk cX1_putOnDisk 4 none, Cond.fieldLink RX1 18 "GatheringCache$State" "diskValues" "[I", Cond.fieldLink RX1 22 "GatheringCache$State" "diskStamps" "[I", Cond.static yX4_isBlock, Cond.initialized RX4, Cond.code yX4_isBlock cX4_isBlock 1 (some .boolean), Cond.methodLink RX1 103 yX1_countWrittenTogether, Cond.instanceMethod yX1_countWrittenTogether, Cond.selects RX1 yX1_countWrittenTogether yX1_countWrittenTogether, Cond.code yX1_countWrittenTogether cX1_countWrittenTogether 2 none, Cond.static yX4_readsToWrite, Cond.code yX4_readsToWrite cX4_readsToWrite 1 (some .int), Cond.static yX4_writesToWrite, Cond.code yX4_writesToWrite cX4_writesToWrite 1 (some .int), Cond.methodLink RX1 107 yX2_lineInReach, Cond.instanceMethod yX2_lineInReach, Cond.selects RX2 yX2_lineInReach yX2_lineInReach]
def wsX1_writeThrough_r2 : List Cond := [Cond.initialized RX2, Cond.code yX2_lineInReach cX2_lineInReach 2 (some .int), Cond.fieldLink RX2 35 "GatheringCache$Stick" "in" "Z", Cond.methodLink RX2 48 yX2_lineOf, Cond.instanceMethod yX2_lineOf, Cond.selects RX2 yX2_lineOf yX2_lineOf, Cond.code yX2_lineOf cX2_lineOf 3 (some .int), Cond.fieldLink RX2 9 "GatheringCache$Stick" "blocks" "[I", Cond.methodLink RX1 95 yX2_fill, Cond.instanceMethod yX2_fill, Cond.selects RX2 yX2_fill yX2_fill, Cond.code yX2_fill cX2_fill 6 none, Cond.fieldLink RX2 15 "GatheringCache$Stick" "values" "[I", Cond.fieldLink RX2 18 "GatheringCache$Stick" "stamps" "[I", Cond.fieldLink RX2 24 "GatheringCache$Stick" "dirty" "[Z", Cond.static yX4_isLine, Cond.code yX4_isLine cX4_isLine 1 (some .boolean), Cond.methodLink RX2 59 yX2_use, Cond.instanceMethod yX2_use, Cond.selects RX2 yX2_use yX2_use, Cond.code yX2_use cX2_use 2 none, Cond.fieldLink RX2 45 "GatheringCache$Stick" "lastUse" "I", Cond.fieldLink RX2 21 "GatheringCache$Stick" "uses" "[I"]
def wsX1_writeThrough : List Cond := .code yX1_writeThrough cX1_writeThrough 3 none :: ((wsX1_writeThrough_r1 ++ wsX1_writeThrough_r2) ++ wsX10 ++ wsX20)
def wsX1_writeBlock_r1 : List Cond := [Cond.fieldLink RX1 28 "GatheringCache$State" "counts" "[I", Cond.fieldLink RX1 45 "GatheringCache$State" "lastStamp" "I", Cond.fieldLink RX1 25 "GatheringCache$State" "latestStamps" "[I", Cond.static yX4_isBlock, Cond.initialized RX4, Cond.code yX4_isBlock cX4_isBlock 1 (some .boolean), Cond.methodLink RX1 66 yX1_gathers, Cond.instanceMethod yX1_gathers, Cond.selects RX1 yX1_gathers yX1_gathers, Cond.initialized RX1, Cond.code yX1_gathers cX1_gathers 1 (some .boolean), Cond.fieldLink RX1 12 "GatheringCache$State" "stick" "LGatheringCache$Stick;", Cond.fieldLink RX1 49 "GatheringCache$Stick" "in" "Z", Cond.fieldLink RX1 52 "GatheringCache$Stick" "charge" "I", Cond.methodLink RX1 70 yX1_gather, Cond.instanceMethod yX1_gather, Cond.selects RX1 yX1_gather yX1_gather, Cond.code yX1_gather cX1_gather 5 none, Cond.static yX4_stripeOf, Cond.code yX4_stripeOf cX4_stripeOf 1 (some .int), Cond.methodLink RX1 80 yX2_lineOf, Cond.instanceMethod yX2_lineOf, Cond.selects RX2 yX2_lineOf yX2_lineOf, Cond.initialized RX2]
def wsX1_writeBlock_r2 : List Cond := [Cond.code yX2_lineOf cX2_lineOf 3 (some .int), Cond.fieldLink RX2 9 "GatheringCache$Stick" "blocks" "[I", Cond.static yX4_isLine, Cond.code yX4_isLine cX4_isLine 1 (some .boolean), Cond.methodLink RX1 86 yX2_freeLine, Cond.instanceMethod yX2_freeLine, Cond.selects RX2 yX2_freeLine yX2_freeLine, Cond.code yX2_freeLine cX2_freeLine 5 (some .int), Cond.fieldLink RX2 24 "GatheringCache$Stick" "dirty" "[Z", Cond.fieldLink RX2 21 "GatheringCache$Stick" "uses" "[I", Cond.methodLink RX1 89 yX2_fullestStripe, Cond.instanceMethod yX2_fullestStripe, Cond.selects RX2 yX2_fullestStripe yX2_fullestStripe, Cond.code yX2_fullestStripe cX2_fullestStripe 5 (some .int), Cond.methodLink RX2 52 yX2_dirtyLinesOf, Cond.instanceMethod yX2_dirtyLinesOf, Cond.selects RX2 yX2_dirtyLinesOf yX2_dirtyLinesOf, Cond.code yX2_dirtyLinesOf cX2_dirtyLinesOf 4 (some .int), Cond.methodLink RX2 66 yX2_isDirtyOf, Cond.instanceMethod yX2_isDirtyOf, Cond.selects RX2 yX2_isDirtyOf yX2_isDirtyOf, Cond.code yX2_isDirtyOf cX2_isDirtyOf 3 (some .boolean), Cond.methodLink RX1 92 yX1_destageStripe, Cond.instanceMethod yX1_destageStripe]
def wsX1_writeBlock_r3 : List Cond := [Cond.selects RX1 yX1_destageStripe yX1_destageStripe, Cond.code yX1_destageStripe cX1_destageStripe 4 (some .int), Cond.fieldLink RX1 123 "GatheringCache$Stick" "blocks" "[I", Cond.fieldLink RX1 113 "GatheringCache$Stick" "values" "[I", Cond.fieldLink RX1 126 "GatheringCache$Stick" "stamps" "[I", Cond.fieldLink RX1 129 "GatheringCache$Stick" "dirty" "[Z", Cond.methodLink RX1 119 yX2_isDirtyOf, Cond.methodLink RX1 99 yX1_putOnDisk, Cond.instanceMethod yX1_putOnDisk, Cond.selects RX1 yX1_putOnDisk yX1_putOnDisk, Cond.code yX1_putOnDisk cX1_putOnDisk 4 none, Cond.fieldLink RX1 18 "GatheringCache$State" "diskValues" "[I", Cond.fieldLink RX1 22 "GatheringCache$State" "diskStamps" "[I", Cond.methodLink RX1 103 yX1_countWrittenTogether, Cond.instanceMethod yX1_countWrittenTogether, Cond.selects RX1 yX1_countWrittenTogether yX1_countWrittenTogether, Cond.code yX1_countWrittenTogether cX1_countWrittenTogether 2 none, Cond.static yX4_readsToWrite, Cond.code yX4_readsToWrite cX4_readsToWrite 1 (some .int), Cond.static yX4_writesToWrite, Cond.code yX4_writesToWrite cX4_writesToWrite 1 (some .int), Cond.methodLink RX1 95 yX2_fill, Cond.instanceMethod yX2_fill, Cond.selects RX2 yX2_fill yX2_fill]
def wsX1_writeBlock_r4 : List Cond := [Cond.code yX2_fill cX2_fill 6 none, Cond.fieldLink RX2 15 "GatheringCache$Stick" "values" "[I", Cond.fieldLink RX2 18 "GatheringCache$Stick" "stamps" "[I", Cond.methodLink RX2 59 yX2_use, Cond.instanceMethod yX2_use, Cond.selects RX2 yX2_use yX2_use, Cond.code yX2_use cX2_use 2 none, Cond.fieldLink RX2 45 "GatheringCache$Stick" "lastUse" "I", Cond.methodLink RX1 74 yX1_writeThrough, Cond.instanceMethod yX1_writeThrough, Cond.selects RX1 yX1_writeThrough yX1_writeThrough, Cond.code yX1_writeThrough cX1_writeThrough 3 none, Cond.methodLink RX1 107 yX2_lineInReach, Cond.instanceMethod yX2_lineInReach, Cond.selects RX2 yX2_lineInReach yX2_lineInReach, Cond.code yX2_lineInReach cX2_lineInReach 2 (some .int), Cond.fieldLink RX2 35 "GatheringCache$Stick" "in" "Z", Cond.methodLink RX2 48 yX2_lineOf]
def wsX1_writeBlock : List Cond := .code yX1_writeBlock cX1_writeBlock 4 (some .int) :: ((wsX1_writeBlock_r1 ++ (wsX1_writeBlock_r2 ++ (wsX1_writeBlock_r3 ++ wsX1_writeBlock_r4))) ++ wsX10 ++ wsX20)
def wsX1_readBlock_r1 : List Cond := [Cond.fieldLink RX1 12 "GatheringCache$State" "stick" "LGatheringCache$Stick;", Cond.fieldLink RX1 28 "GatheringCache$State" "counts" "[I", Cond.fieldLink RX1 113 "GatheringCache$Stick" "values" "[I", Cond.methodLink RX1 107 yX2_lineInReach, Cond.instanceMethod yX2_lineInReach, Cond.selects RX2 yX2_lineInReach yX2_lineInReach, Cond.initialized RX2, Cond.code yX2_lineInReach cX2_lineInReach 2 (some .int), Cond.fieldLink RX2 35 "GatheringCache$Stick" "in" "Z", Cond.methodLink RX2 48 yX2_lineOf, Cond.instanceMethod yX2_lineOf, Cond.selects RX2 yX2_lineOf yX2_lineOf, Cond.code yX2_lineOf cX2_lineOf 3 (some .int), Cond.fieldLink RX2 9 "GatheringCache$Stick" "blocks" "[I", Cond.static yX4_isLine, Cond.initialized RX4, Cond.code yX4_isLine cX4_isLine 1 (some .boolean), Cond.methodLink RX1 110 yX2_use, Cond.instanceMethod yX2_use, Cond.selects RX2 yX2_use yX2_use, Cond.code yX2_use cX2_use 2 none, Cond.fieldLink RX2 45 "GatheringCache$Stick" "lastUse" "I", Cond.fieldLink RX2 21 "GatheringCache$Stick" "uses" "[I", Cond.methodLink RX1 116 yX1_diskValueOf]
def wsX1_readBlock_r2 : List Cond := [Cond.instanceMethod yX1_diskValueOf, Cond.selects RX1 yX1_diskValueOf yX1_diskValueOf, Cond.initialized RX1, Cond.code yX1_diskValueOf cX1_diskValueOf 2 (some .int), Cond.fieldLink RX1 18 "GatheringCache$State" "diskValues" "[I", Cond.static yX4_isBlock, Cond.code yX4_isBlock cX4_isBlock 1 (some .boolean)]
def wsX1_readBlock : List Cond := .code yX1_readBlock cX1_readBlock 3 (some .int) :: ((wsX1_readBlock_r1 ++ wsX1_readBlock_r2) ++ wsX10 ++ wsX20)
def wsX1_destageStripes_r1 : List Cond := [Cond.methodLink RX1 92 yX1_destageStripe, Cond.instanceMethod yX1_destageStripe, Cond.selects RX1 yX1_destageStripe yX1_destageStripe, Cond.initialized RX1, Cond.code yX1_destageStripe cX1_destageStripe 4 (some .int), Cond.fieldLink RX1 12 "GatheringCache$State" "stick" "LGatheringCache$Stick;", Cond.fieldLink RX1 123 "GatheringCache$Stick" "blocks" "[I", Cond.fieldLink RX1 113 "GatheringCache$Stick" "values" "[I", Cond.fieldLink RX1 126 "GatheringCache$Stick" "stamps" "[I", Cond.fieldLink RX1 129 "GatheringCache$Stick" "dirty" "[Z", Cond.fieldLink RX1 28 "GatheringCache$State" "counts" "[I", Cond.methodLink RX1 119 yX2_isDirtyOf, Cond.instanceMethod yX2_isDirtyOf, Cond.selects RX2 yX2_isDirtyOf yX2_isDirtyOf, Cond.initialized RX2, Cond.code yX2_isDirtyOf cX2_isDirtyOf 3 (some .boolean), Cond.fieldLink RX2 24 "GatheringCache$Stick" "dirty" "[Z", Cond.fieldLink RX2 9 "GatheringCache$Stick" "blocks" "[I", Cond.static yX4_stripeOf, Cond.initialized RX4, Cond.code yX4_stripeOf cX4_stripeOf 1 (some .int), Cond.methodLink RX1 99 yX1_putOnDisk, Cond.instanceMethod yX1_putOnDisk, Cond.selects RX1 yX1_putOnDisk yX1_putOnDisk]
def wsX1_destageStripes_r2 : List Cond := [Cond.code yX1_putOnDisk cX1_putOnDisk 4 none, Cond.fieldLink RX1 18 "GatheringCache$State" "diskValues" "[I", Cond.fieldLink RX1 22 "GatheringCache$State" "diskStamps" "[I", Cond.static yX4_isBlock, Cond.code yX4_isBlock cX4_isBlock 1 (some .boolean), Cond.methodLink RX1 103 yX1_countWrittenTogether, Cond.instanceMethod yX1_countWrittenTogether, Cond.selects RX1 yX1_countWrittenTogether yX1_countWrittenTogether, Cond.code yX1_countWrittenTogether cX1_countWrittenTogether 2 none, Cond.static yX4_readsToWrite, Cond.code yX4_readsToWrite cX4_readsToWrite 1 (some .int), Cond.static yX4_writesToWrite, Cond.code yX4_writesToWrite cX4_writesToWrite 1 (some .int)]
def wsX1_destageStripes : List Cond := .code yX1_destageStripes cX1_destageStripes 3 (some .int) :: ((wsX1_destageStripes_r1 ++ wsX1_destageStripes_r2) ++ wsX10 ++ wsX20)
def wsX2_load : List Cond := .code yX2_load cX2_load 1 none :: ([.fieldLink RX2 32 "GatheringCache$Stick" "charge" "I", .fieldLink RX2 28 "GatheringCache$Stick" "limit" "I", .methodLink RX2 70 Lib.Math.min.name, .static Lib.Math.min.name, .initialized "java/lang/Math", .code Lib.Math.min.name Lib.Math.min.code 2 (some .int)] ++ wsX20)
def wsX2_dirtyLines : List Cond := .code yX2_dirtyLines cX2_dirtyLines 3 (some .int) :: ([.fieldLink RX2 24 "GatheringCache$Stick" "dirty" "[Z"] ++ wsX20)
def wsX2_empty : List Cond := .code yX2_empty cX2_empty 2 none :: ([.fieldLink RX2 9 "GatheringCache$Stick" "blocks" "[I", .fieldLink RX2 24 "GatheringCache$Stick" "dirty" "[Z", .static yX4_isLine, .initialized RX4, .code yX4_isLine cX4_isLine 1 (some .boolean)] ++ wsX20)
def wsX2_drain : List Cond := .code yX2_drain cX2_drain 3 (some .int) :: ([.fieldLink RX2 32 "GatheringCache$Stick" "charge" "I", .methodLink RX2 76 Lib.Math.max.name, .static Lib.Math.max.name, .initialized "java/lang/Math", .code Lib.Math.max.name Lib.Math.max.code 2 (some .int), .methodLink RX2 79 yX2_dirtyLines, .instanceMethod yX2_dirtyLines, .selects RX2 yX2_dirtyLines yX2_dirtyLines, .initialized RX2, .code yX2_dirtyLines cX2_dirtyLines 3 (some .int), .fieldLink RX2 24 "GatheringCache$Stick" "dirty" "[Z", .methodLink RX2 83 yX2_empty, .instanceMethod yX2_empty, .selects RX2 yX2_empty yX2_empty, .code yX2_empty cX2_empty 2 none, .fieldLink RX2 9 "GatheringCache$Stick" "blocks" "[I", .static yX4_isLine, .initialized RX4, .code yX4_isLine cX4_isLine 1 (some .boolean)] ++ wsX20)
def wsX1_letPass_r1 : List Cond := [Cond.fieldLink RX1 12 "GatheringCache$State" "stick" "LGatheringCache$Stick;", Cond.fieldLink RX1 28 "GatheringCache$State" "counts" "[I", Cond.methodLink RX1 133 yX1_canDestage, Cond.instanceMethod yX1_canDestage, Cond.selects RX1 yX1_canDestage yX1_canDestage, Cond.initialized RX1, Cond.code yX1_canDestage cX1_canDestage 1 (some .boolean), Cond.fieldLink RX1 31 "GatheringCache$State" "on" "Z", Cond.fieldLink RX1 49 "GatheringCache$Stick" "in" "Z", Cond.methodLink RX1 136 yX2_load, Cond.instanceMethod yX2_load, Cond.selects RX2 yX2_load yX2_load, Cond.initialized RX2, Cond.code yX2_load cX2_load 1 none, Cond.fieldLink RX2 32 "GatheringCache$Stick" "charge" "I", Cond.fieldLink RX2 28 "GatheringCache$Stick" "limit" "I", Cond.methodLink RX2 70 Lib.Math.min.name, Cond.static Lib.Math.min.name, Cond.initialized "java/lang/Math", Cond.code Lib.Math.min.name Lib.Math.min.code 2 (some .int), Cond.methodLink RX1 139 yX2_drain, Cond.instanceMethod yX2_drain, Cond.selects RX2 yX2_drain yX2_drain, Cond.code yX2_drain cX2_drain 3 (some .int)]
def wsX1_letPass_r2 : List Cond := [Cond.methodLink RX2 76 Lib.Math.max.name, Cond.static Lib.Math.max.name, Cond.code Lib.Math.max.name Lib.Math.max.code 2 (some .int), Cond.methodLink RX2 79 yX2_dirtyLines, Cond.instanceMethod yX2_dirtyLines, Cond.selects RX2 yX2_dirtyLines yX2_dirtyLines, Cond.code yX2_dirtyLines cX2_dirtyLines 3 (some .int), Cond.fieldLink RX2 24 "GatheringCache$Stick" "dirty" "[Z", Cond.methodLink RX2 83 yX2_empty, Cond.instanceMethod yX2_empty, Cond.selects RX2 yX2_empty yX2_empty, Cond.code yX2_empty cX2_empty 2 none, Cond.fieldLink RX2 9 "GatheringCache$Stick" "blocks" "[I", Cond.static yX4_isLine, Cond.initialized RX4, Cond.code yX4_isLine cX4_isLine 1 (some .boolean)]
def wsX1_letPass : List Cond := .code yX1_letPass cX1_letPass 3 none :: ((wsX1_letPass_r1 ++ wsX1_letPass_r2) ++ wsX10 ++ wsX20)
def wsX1_switchPower_r1 : List Cond := [Cond.fieldLink RX1 31 "GatheringCache$State" "on" "Z", Cond.fieldLink RX1 12 "GatheringCache$State" "stick" "LGatheringCache$Stick;", Cond.fieldLink RX1 49 "GatheringCache$Stick" "in" "Z", Cond.fieldLink RX1 52 "GatheringCache$Stick" "charge" "I", Cond.methodLink RX1 143 yX1_destageStripes, Cond.instanceMethod yX1_destageStripes, Cond.selects RX1 yX1_destageStripes yX1_destageStripes, Cond.initialized RX1, Cond.code yX1_destageStripes cX1_destageStripes 3 (some .int), Cond.methodLink RX1 92 yX1_destageStripe, Cond.instanceMethod yX1_destageStripe, Cond.selects RX1 yX1_destageStripe yX1_destageStripe, Cond.code yX1_destageStripe cX1_destageStripe 4 (some .int), Cond.fieldLink RX1 123 "GatheringCache$Stick" "blocks" "[I", Cond.fieldLink RX1 113 "GatheringCache$Stick" "values" "[I", Cond.fieldLink RX1 126 "GatheringCache$Stick" "stamps" "[I", Cond.fieldLink RX1 129 "GatheringCache$Stick" "dirty" "[Z", Cond.fieldLink RX1 28 "GatheringCache$State" "counts" "[I", Cond.methodLink RX1 119 yX2_isDirtyOf, Cond.instanceMethod yX2_isDirtyOf, Cond.selects RX2 yX2_isDirtyOf yX2_isDirtyOf, Cond.initialized RX2, Cond.code yX2_isDirtyOf cX2_isDirtyOf 3 (some .boolean), Cond.fieldLink RX2 24 "GatheringCache$Stick" "dirty" "[Z"]
def wsX1_switchPower_r2 : List Cond := [Cond.fieldLink RX2 9 "GatheringCache$Stick" "blocks" "[I", Cond.static yX4_stripeOf, Cond.initialized RX4, Cond.code yX4_stripeOf cX4_stripeOf 1 (some .int), Cond.methodLink RX1 99 yX1_putOnDisk, Cond.instanceMethod yX1_putOnDisk, Cond.selects RX1 yX1_putOnDisk yX1_putOnDisk, Cond.code yX1_putOnDisk cX1_putOnDisk 4 none, Cond.fieldLink RX1 18 "GatheringCache$State" "diskValues" "[I", Cond.fieldLink RX1 22 "GatheringCache$State" "diskStamps" "[I", Cond.static yX4_isBlock, Cond.code yX4_isBlock cX4_isBlock 1 (some .boolean), Cond.methodLink RX1 103 yX1_countWrittenTogether, Cond.instanceMethod yX1_countWrittenTogether, Cond.selects RX1 yX1_countWrittenTogether yX1_countWrittenTogether, Cond.code yX1_countWrittenTogether cX1_countWrittenTogether 2 none, Cond.static yX4_readsToWrite, Cond.code yX4_readsToWrite cX4_readsToWrite 1 (some .int), Cond.static yX4_writesToWrite, Cond.code yX4_writesToWrite cX4_writesToWrite 1 (some .int)]
def wsX1_switchPower : List Cond := .code yX1_switchPower cX1_switchPower 3 (some .int) :: ((wsX1_switchPower_r1 ++ wsX1_switchPower_r2) ++ wsX10 ++ wsX20)
def wsX1_emptyOutdatedLines : List Cond := .code yX1_emptyOutdatedLines cX1_emptyOutdatedLines 4 (some .int) :: ([.fieldLink RX1 12 "GatheringCache$State" "stick" "LGatheringCache$Stick;", .fieldLink RX1 123 "GatheringCache$Stick" "blocks" "[I", .fieldLink RX1 126 "GatheringCache$Stick" "stamps" "[I", .fieldLink RX1 22 "GatheringCache$State" "diskStamps" "[I", .static yX4_isBlock, .initialized RX4, .code yX4_isBlock cX4_isBlock 1 (some .boolean), .methodLink RX1 149 yX2_empty, .instanceMethod yX2_empty, .selects RX2 yX2_empty yX2_empty, .initialized RX2, .code yX2_empty cX2_empty 2 none, .fieldLink RX2 9 "GatheringCache$Stick" "blocks" "[I", .fieldLink RX2 24 "GatheringCache$Stick" "dirty" "[Z", .static yX4_isLine, .code yX4_isLine cX4_isLine 1 (some .boolean)] ++ wsX10 ++ wsX20)
def wsX1_placeStick : List Cond := .code yX1_placeStick cX1_placeStick 3 (some .int) :: ([.fieldLink RX1 12 "GatheringCache$State" "stick" "LGatheringCache$Stick;", .fieldLink RX1 49 "GatheringCache$Stick" "in" "Z", .methodLink RX1 146 yX1_emptyOutdatedLines, .instanceMethod yX1_emptyOutdatedLines, .selects RX1 yX1_emptyOutdatedLines yX1_emptyOutdatedLines, .initialized RX1, .code yX1_emptyOutdatedLines cX1_emptyOutdatedLines 4 (some .int), .fieldLink RX1 123 "GatheringCache$Stick" "blocks" "[I", .fieldLink RX1 126 "GatheringCache$Stick" "stamps" "[I", .fieldLink RX1 22 "GatheringCache$State" "diskStamps" "[I", .static yX4_isBlock, .initialized RX4, .code yX4_isBlock cX4_isBlock 1 (some .boolean), .methodLink RX1 149 yX2_empty, .instanceMethod yX2_empty, .selects RX2 yX2_empty yX2_empty, .initialized RX2, .code yX2_empty cX2_empty 2 none, .fieldLink RX2 9 "GatheringCache$Stick" "blocks" "[I", .fieldLink RX2 24 "GatheringCache$Stick" "dirty" "[Z", .static yX4_isLine, .code yX4_isLine cX4_isLine 1 (some .boolean)] ++ wsX10 ++ wsX20)
def wsX1_finds : List Cond := .code yX1_finds cX1_finds 3 (some .boolean) :: ([.fieldLink RX1 22 "GatheringCache$State" "diskStamps" "[I", .fieldLink RX1 25 "GatheringCache$State" "latestStamps" "[I", .fieldLink RX1 12 "GatheringCache$State" "stick" "LGatheringCache$Stick;", .fieldLink RX1 126 "GatheringCache$Stick" "stamps" "[I", .static yX4_isBlock, .initialized RX4, .code yX4_isBlock cX4_isBlock 1 (some .boolean), .methodLink RX1 107 yX2_lineInReach, .instanceMethod yX2_lineInReach, .selects RX2 yX2_lineInReach yX2_lineInReach, .initialized RX2, .code yX2_lineInReach cX2_lineInReach 2 (some .int), .fieldLink RX2 35 "GatheringCache$Stick" "in" "Z", .methodLink RX2 48 yX2_lineOf, .instanceMethod yX2_lineOf, .selects RX2 yX2_lineOf yX2_lineOf, .code yX2_lineOf cX2_lineOf 3 (some .int), .fieldLink RX2 9 "GatheringCache$Stick" "blocks" "[I", .static yX4_isLine, .code yX4_isLine cX4_isLine 1 (some .boolean)] ++ wsX10 ++ wsX20)
def wsX4_operationsToWrite : List Cond := .code yX4_operationsToWrite cX4_operationsToWrite 1 (some .int) :: ([.methodLink RX4 207 yX4_readsToWrite, .static yX4_readsToWrite, .initialized RX4, .code yX4_readsToWrite cX4_readsToWrite 1 (some .int), .methodLink RX4 210 yX4_writesToWrite, .static yX4_writesToWrite, .code yX4_writesToWrite cX4_writesToWrite 1 (some .int)])
def wsX1_operationsIfWritten_r1 : List Cond := [Cond.fieldLink RX1 12 "GatheringCache$State" "stick" "LGatheringCache$Stick;", Cond.methodLink RX1 66 yX1_gathers, Cond.instanceMethod yX1_gathers, Cond.selects RX1 yX1_gathers yX1_gathers, Cond.initialized RX1, Cond.code yX1_gathers cX1_gathers 1 (some .boolean), Cond.fieldLink RX1 49 "GatheringCache$Stick" "in" "Z", Cond.fieldLink RX1 52 "GatheringCache$Stick" "charge" "I", Cond.static yX4_operationsToWrite, Cond.initialized RX4, Cond.code yX4_operationsToWrite cX4_operationsToWrite 1 (some .int), Cond.methodLink RX4 207 yX4_readsToWrite, Cond.static yX4_readsToWrite, Cond.code yX4_readsToWrite cX4_readsToWrite 1 (some .int), Cond.methodLink RX4 210 yX4_writesToWrite, Cond.static yX4_writesToWrite, Cond.code yX4_writesToWrite cX4_writesToWrite 1 (some .int), Cond.static yX4_stripeOf, Cond.code yX4_stripeOf cX4_stripeOf 1 (some .int), Cond.methodLink RX1 80 yX2_lineOf, Cond.instanceMethod yX2_lineOf, Cond.selects RX2 yX2_lineOf yX2_lineOf, Cond.initialized RX2, Cond.code yX2_lineOf cX2_lineOf 3 (some .int)]
def wsX1_operationsIfWritten_r2 : List Cond := [Cond.fieldLink RX2 9 "GatheringCache$Stick" "blocks" "[I", Cond.static yX4_isLine, Cond.code yX4_isLine cX4_isLine 1 (some .boolean), Cond.methodLink RX1 86 yX2_freeLine, Cond.instanceMethod yX2_freeLine, Cond.selects RX2 yX2_freeLine yX2_freeLine, Cond.code yX2_freeLine cX2_freeLine 5 (some .int), Cond.fieldLink RX2 24 "GatheringCache$Stick" "dirty" "[Z", Cond.fieldLink RX2 21 "GatheringCache$Stick" "uses" "[I", Cond.methodLink RX1 89 yX2_fullestStripe, Cond.instanceMethod yX2_fullestStripe, Cond.selects RX2 yX2_fullestStripe yX2_fullestStripe, Cond.code yX2_fullestStripe cX2_fullestStripe 5 (some .int), Cond.methodLink RX2 52 yX2_dirtyLinesOf, Cond.instanceMethod yX2_dirtyLinesOf, Cond.selects RX2 yX2_dirtyLinesOf yX2_dirtyLinesOf, Cond.code yX2_dirtyLinesOf cX2_dirtyLinesOf 4 (some .int), Cond.methodLink RX2 66 yX2_isDirtyOf, Cond.instanceMethod yX2_isDirtyOf, Cond.selects RX2 yX2_isDirtyOf yX2_isDirtyOf, Cond.code yX2_isDirtyOf cX2_isDirtyOf 3 (some .boolean), Cond.methodLink RX1 155 yX2_dirtyLinesOf]
def wsX1_operationsIfWritten : List Cond := .code yX1_operationsIfWritten cX1_operationsIfWritten 3 (some .int) :: ((wsX1_operationsIfWritten_r1 ++ wsX1_operationsIfWritten_r2) ++ wsX10 ++ wsX20)
def wsX1_operationsIfDestaged : List Cond := .code yX1_operationsIfDestaged cX1_operationsIfDestaged 3 (some .int) :: ([.fieldLink RX1 12 "GatheringCache$State" "stick" "LGatheringCache$Stick;", .methodLink RX1 155 yX2_dirtyLinesOf, .instanceMethod yX2_dirtyLinesOf, .selects RX2 yX2_dirtyLinesOf yX2_dirtyLinesOf, .initialized RX2, .code yX2_dirtyLinesOf cX2_dirtyLinesOf 4 (some .int), .methodLink RX2 66 yX2_isDirtyOf, .instanceMethod yX2_isDirtyOf, .selects RX2 yX2_isDirtyOf yX2_isDirtyOf, .code yX2_isDirtyOf cX2_isDirtyOf 3 (some .boolean), .fieldLink RX2 24 "GatheringCache$Stick" "dirty" "[Z", .fieldLink RX2 9 "GatheringCache$Stick" "blocks" "[I", .static yX4_stripeOf, .initialized RX4, .code yX4_stripeOf cX4_stripeOf 1 (some .int), .static yX4_operationsToWrite, .code yX4_operationsToWrite cX4_operationsToWrite 1 (some .int), .methodLink RX4 207 yX4_readsToWrite, .static yX4_readsToWrite, .code yX4_readsToWrite cX4_readsToWrite 1 (some .int), .methodLink RX4 210 yX4_writesToWrite, .static yX4_writesToWrite, .code yX4_writesToWrite cX4_writesToWrite 1 (some .int)] ++ wsX10 ++ wsX20)
def wsX2_usedLines : List Cond := .code yX2_usedLines cX2_usedLines 3 (some .int) :: ([.fieldLink RX2 9 "GatheringCache$Stick" "blocks" "[I"] ++ wsX20)
def wsX2_partOf : List Cond := .code yX2_partOf cX2_partOf 3 (some .int) :: ([.fieldLink RX2 9 "GatheringCache$Stick" "blocks" "[I", .fieldLink RX2 15 "GatheringCache$Stick" "values" "[I", .fieldLink RX2 18 "GatheringCache$Stick" "stamps" "[I", .fieldLink RX2 21 "GatheringCache$Stick" "uses" "[I", .fieldLink RX2 24 "GatheringCache$Stick" "dirty" "[Z", .static yX4_isLine, .initialized RX4, .code yX4_isLine cX4_isLine 1 (some .boolean)] ++ wsX20)
def wsX2_limitTo : List Cond := .code yX2_limitTo cX2_limitTo 2 none :: ([.fieldLink RX2 28 "GatheringCache$Stick" "limit" "I", .fieldLink RX2 32 "GatheringCache$Stick" "charge" "I", .methodLink RX2 70 Lib.Math.min.name, .static Lib.Math.min.name, .initialized "java/lang/Math", .code Lib.Math.min.name Lib.Math.min.code 2 (some .int)] ++ wsX20)
def wsX3_init : List Cond := .code yX3_init cX3_init 1 none :: ([.methodLink RX3 3 objectInit, .instanceMethod objectInit, .code objectInit ⟨#[0xb1]⟩ 1 none, .arrayClass .char, .fieldLink RX3 9 "GatheringCache$Text" "characters" "[C"] ++ wsX30)
def wsX4_init_r1 : List Cond := [Cond.methodLink RX4 1 objectInit, Cond.instanceMethod objectInit, Cond.code objectInit ⟨#[0xb1]⟩ 1 none, Cond.classLink RX4 7 RX1, Cond.instantiable RX1 7, Cond.initialized RX1, Cond.fieldLink RX4 10 "GatheringCache" "now" "LGatheringCache$State;", Cond.classLink RX4 16 RX0, Cond.instantiable RX0 3, Cond.initialized RX0, Cond.fieldLink RX4 19 "GatheringCache" "history" "LGatheringCache$History;", Cond.classLink RX4 23 RX3, Cond.instantiable RX3 6, Cond.initialized RX3, Cond.fieldLink RX4 26 "GatheringCache" "text" "LGatheringCache$Text;", Cond.instanceMethod yX1_init, Cond.code yX1_init cX1_init 1 none, Cond.methodLink RX1 3 objectInit, Cond.classLink RX1 9 RX2, Cond.instantiable RX2 9, Cond.initialized RX2, Cond.fieldLink RX1 12 "GatheringCache$State" "stick" "LGatheringCache$Stick;", Cond.arrayClass .int, Cond.fieldLink RX1 18 "GatheringCache$State" "diskValues" "[I"]
def wsX4_init_r2 : List Cond := [Cond.fieldLink RX1 22 "GatheringCache$State" "diskStamps" "[I", Cond.fieldLink RX1 25 "GatheringCache$State" "latestStamps" "[I", Cond.fieldLink RX1 28 "GatheringCache$State" "counts" "[I", Cond.fieldLink RX1 31 "GatheringCache$State" "on" "Z", Cond.methodLink RX1 11 yX2_init, Cond.instanceMethod yX2_init, Cond.code yX2_init cX2_init 2 none, Cond.methodLink RX2 3 objectInit, Cond.fieldLink RX2 9 "GatheringCache$Stick" "blocks" "[I", Cond.fieldLink RX2 15 "GatheringCache$Stick" "values" "[I", Cond.fieldLink RX2 18 "GatheringCache$Stick" "stamps" "[I", Cond.fieldLink RX2 21 "GatheringCache$Stick" "uses" "[I", Cond.arrayClass .boolean, Cond.fieldLink RX2 24 "GatheringCache$Stick" "dirty" "[Z", Cond.fieldLink RX2 28 "GatheringCache$Stick" "limit" "I", Cond.fieldLink RX2 32 "GatheringCache$Stick" "charge" "I", Cond.fieldLink RX2 35 "GatheringCache$Stick" "in" "Z", Cond.methodLink RX4 18 yX0_init, Cond.instanceMethod yX0_init, Cond.code yX0_init cX0_init 2 none, Cond.methodLink RX0 3 objectInit, Cond.classLink RX0 9 RX1, Cond.fieldLink RX0 11 "GatheringCache$History" "states" "[LGatheringCache$State;", Cond.instanceMethod yX3_init]
def wsX4_init_r3 : List Cond := [Cond.code yX3_init cX3_init 1 none, Cond.methodLink RX3 3 objectInit, Cond.arrayClass .char, Cond.fieldLink RX3 9 "GatheringCache$Text" "characters" "[C"]
def wsX4_init : List Cond := .code yX4_init cX4_init 1 none :: ((wsX4_init_r1 ++ (wsX4_init_r2 ++ wsX4_init_r3)) ++ wsX10 ++ wsX40 ++ wsX00 ++ wsX30 ++ wsX20)
def wsX4_requireBlock : List Cond := .code yX4_requireBlock cX4_requireBlock 1 none :: ([.classLink RX4 146 "java/lang/IndexOutOfBoundsException", .initialized "java/lang/IndexOutOfBoundsException", .methodLink RX4 187 yX4_isBlock, .static yX4_isBlock, .initialized RX4, .code yX4_isBlock cX4_isBlock 1 (some .boolean)] ++ (vx_atS RX4 150 "java/lang/IndexOutOfBoundsException" ["java/lang/RuntimeException", "java/lang/Exception"]).filter goodWord)
def wsX4_requirePower : List Cond := .code yX4_requirePower cX4_requirePower 1 none :: ([.classLink RX4 97 "java/lang/IllegalStateException", .initialized "java/lang/IllegalStateException", .fieldLink RX4 10 "GatheringCache" "now" "LGatheringCache$State;", .fieldLink RX4 93 "GatheringCache$State" "on" "Z"] ++ wsX40 ++ wsX10 ++ (vx_atS RX4 101 "java/lang/IllegalStateException" ["java/lang/RuntimeException", "java/lang/Exception"]).filter goodWord)
def wsX4_write_r1 : List Cond := [Cond.classLink RX4 34 "java/lang/IllegalArgumentException", Cond.initialized "java/lang/IllegalArgumentException", Cond.fieldLink RX4 19 "GatheringCache" "history" "LGatheringCache$History;", Cond.fieldLink RX4 10 "GatheringCache" "now" "LGatheringCache$State;", Cond.methodLink RX4 30 yX4_requireBlock, Cond.static yX4_requireBlock, Cond.initialized RX4, Cond.code yX4_requireBlock cX4_requireBlock 1 none, Cond.classLink RX4 146 "java/lang/IndexOutOfBoundsException", Cond.initialized "java/lang/IndexOutOfBoundsException", Cond.methodLink RX4 187 yX4_isBlock, Cond.static yX4_isBlock, Cond.code yX4_isBlock cX4_isBlock 1 (some .boolean), Cond.methodLink RX4 41 yX4_requirePower, Cond.instanceMethod yX4_requirePower, Cond.selects RX4 yX4_requirePower yX4_requirePower, Cond.code yX4_requirePower cX4_requirePower 1 none, Cond.classLink RX4 97 "java/lang/IllegalStateException", Cond.initialized "java/lang/IllegalStateException", Cond.fieldLink RX4 93 "GatheringCache$State" "on" "Z", Cond.methodLink RX4 44 yX0_save, Cond.instanceMethod yX0_save, Cond.selects RX0 yX0_save yX0_save, Cond.initialized RX0]
def wsX4_write_r2 : List Cond := [Cond.code yX0_save cX0_save 3 none, Cond.fieldLink RX0 11 "GatheringCache$History" "states" "[LGatheringCache$State;", Cond.fieldLink RX0 18 "GatheringCache$History" "next" "I", Cond.fieldLink RX0 32 "GatheringCache$History" "size" "I", Cond.methodLink RX0 35 Lib.Math.min.name, Cond.static Lib.Math.min.name, Cond.initialized "java/lang/Math", Cond.code Lib.Math.min.name Lib.Math.min.code 2 (some .int), Cond.methodLink RX0 22 yJ9_floorMod_7cf53, Cond.static yJ9_floorMod_7cf53, Cond.initialized RJ9, Cond.code yJ9_floorMod_7cf53 cJ9_floorMod_7cf53 3 (some .int), Cond.methodLink RX0 28 yX1_copyFrom, Cond.instanceMethod yX1_copyFrom, Cond.selects RX1 yX1_copyFrom yX1_copyFrom, Cond.initialized RX1, Cond.code yX1_copyFrom cX1_copyFrom 2 none, Cond.fieldLink RX1 12 "GatheringCache$State" "stick" "LGatheringCache$Stick;", Cond.fieldLink RX1 18 "GatheringCache$State" "diskValues" "[I", Cond.methodLink RX1 39 arraycopyName, Cond.native arraycopyName, Cond.static arraycopyName, Cond.initialized "java/lang/System", Cond.fieldLink RX1 22 "GatheringCache$State" "diskStamps" "[I"]
def wsX4_write_r3 : List Cond := [Cond.fieldLink RX1 25 "GatheringCache$State" "latestStamps" "[I", Cond.fieldLink RX1 28 "GatheringCache$State" "counts" "[I", Cond.fieldLink RX1 45 "GatheringCache$State" "lastStamp" "I", Cond.fieldLink RX1 31 "GatheringCache$State" "on" "Z", Cond.methodLink RX1 35 yX2_copyFrom, Cond.instanceMethod yX2_copyFrom, Cond.selects RX2 yX2_copyFrom yX2_copyFrom, Cond.initialized RX2, Cond.code yX2_copyFrom cX2_copyFrom 3 none, Cond.fieldLink RX2 9 "GatheringCache$Stick" "blocks" "[I", Cond.methodLink RX2 39 arraycopyName, Cond.fieldLink RX2 15 "GatheringCache$Stick" "values" "[I", Cond.fieldLink RX2 18 "GatheringCache$Stick" "stamps" "[I", Cond.fieldLink RX2 21 "GatheringCache$Stick" "uses" "[I", Cond.fieldLink RX2 24 "GatheringCache$Stick" "dirty" "[Z", Cond.fieldLink RX2 45 "GatheringCache$Stick" "lastUse" "I", Cond.fieldLink RX2 28 "GatheringCache$Stick" "limit" "I", Cond.fieldLink RX2 32 "GatheringCache$Stick" "charge" "I", Cond.fieldLink RX2 35 "GatheringCache$Stick" "in" "Z", Cond.methodLink RX4 48 yX1_writeBlock, Cond.instanceMethod yX1_writeBlock, Cond.selects RX1 yX1_writeBlock yX1_writeBlock, Cond.code yX1_writeBlock cX1_writeBlock 4 (some .int), Cond.methodLink RX1 66 yX1_gathers]
def wsX4_write_r4 : List Cond := [Cond.instanceMethod yX1_gathers, Cond.selects RX1 yX1_gathers yX1_gathers, Cond.code yX1_gathers cX1_gathers 1 (some .boolean), Cond.fieldLink RX1 49 "GatheringCache$Stick" "in" "Z", Cond.fieldLink RX1 52 "GatheringCache$Stick" "charge" "I", Cond.methodLink RX1 70 yX1_gather, Cond.instanceMethod yX1_gather, Cond.selects RX1 yX1_gather yX1_gather, Cond.code yX1_gather cX1_gather 5 none, Cond.static yX4_stripeOf, Cond.code yX4_stripeOf cX4_stripeOf 1 (some .int), Cond.methodLink RX1 80 yX2_lineOf, Cond.instanceMethod yX2_lineOf, Cond.selects RX2 yX2_lineOf yX2_lineOf, Cond.code yX2_lineOf cX2_lineOf 3 (some .int), Cond.static yX4_isLine, Cond.code yX4_isLine cX4_isLine 1 (some .boolean), Cond.methodLink RX1 86 yX2_freeLine, Cond.instanceMethod yX2_freeLine, Cond.selects RX2 yX2_freeLine yX2_freeLine, Cond.code yX2_freeLine cX2_freeLine 5 (some .int), Cond.methodLink RX1 89 yX2_fullestStripe, Cond.instanceMethod yX2_fullestStripe, Cond.selects RX2 yX2_fullestStripe yX2_fullestStripe]
def wsX4_write_r5 : List Cond := [Cond.code yX2_fullestStripe cX2_fullestStripe 5 (some .int), Cond.methodLink RX2 52 yX2_dirtyLinesOf, Cond.instanceMethod yX2_dirtyLinesOf, Cond.selects RX2 yX2_dirtyLinesOf yX2_dirtyLinesOf, Cond.code yX2_dirtyLinesOf cX2_dirtyLinesOf 4 (some .int), Cond.methodLink RX2 66 yX2_isDirtyOf, Cond.instanceMethod yX2_isDirtyOf, Cond.selects RX2 yX2_isDirtyOf yX2_isDirtyOf, Cond.code yX2_isDirtyOf cX2_isDirtyOf 3 (some .boolean), Cond.methodLink RX1 92 yX1_destageStripe, Cond.instanceMethod yX1_destageStripe, Cond.selects RX1 yX1_destageStripe yX1_destageStripe, Cond.code yX1_destageStripe cX1_destageStripe 4 (some .int), Cond.fieldLink RX1 123 "GatheringCache$Stick" "blocks" "[I", Cond.fieldLink RX1 113 "GatheringCache$Stick" "values" "[I", Cond.fieldLink RX1 126 "GatheringCache$Stick" "stamps" "[I", Cond.fieldLink RX1 129 "GatheringCache$Stick" "dirty" "[Z", Cond.methodLink RX1 119 yX2_isDirtyOf, Cond.methodLink RX1 99 yX1_putOnDisk, Cond.instanceMethod yX1_putOnDisk, Cond.selects RX1 yX1_putOnDisk yX1_putOnDisk, Cond.code yX1_putOnDisk cX1_putOnDisk 4 none, Cond.methodLink RX1 103 yX1_countWrittenTogether, Cond.instanceMethod yX1_countWrittenTogether]
def wsX4_write_r6 : List Cond := [Cond.selects RX1 yX1_countWrittenTogether yX1_countWrittenTogether, Cond.code yX1_countWrittenTogether cX1_countWrittenTogether 2 none, Cond.static yX4_readsToWrite, Cond.code yX4_readsToWrite cX4_readsToWrite 1 (some .int), Cond.static yX4_writesToWrite, Cond.code yX4_writesToWrite cX4_writesToWrite 1 (some .int), Cond.methodLink RX1 95 yX2_fill, Cond.instanceMethod yX2_fill, Cond.selects RX2 yX2_fill yX2_fill, Cond.code yX2_fill cX2_fill 6 none, Cond.methodLink RX2 59 yX2_use, Cond.instanceMethod yX2_use, Cond.selects RX2 yX2_use yX2_use, Cond.code yX2_use cX2_use 2 none, Cond.methodLink RX1 74 yX1_writeThrough, Cond.instanceMethod yX1_writeThrough, Cond.selects RX1 yX1_writeThrough yX1_writeThrough, Cond.code yX1_writeThrough cX1_writeThrough 3 none, Cond.methodLink RX1 107 yX2_lineInReach, Cond.instanceMethod yX2_lineInReach, Cond.selects RX2 yX2_lineInReach yX2_lineInReach, Cond.code yX2_lineInReach cX2_lineInReach 2 (some .int), Cond.methodLink RX2 48 yX2_lineOf]
def wsX4_write : List Cond := .code yX4_write cX4_write 3 (some .int) :: ((wsX4_write_r1 ++ (wsX4_write_r2 ++ (wsX4_write_r3 ++ (wsX4_write_r4 ++ (wsX4_write_r5 ++ wsX4_write_r6))))) ++ wsX40 ++ wsX10 ++ wsX00 ++ wsX20 ++ (vx_atS RX4 38 "java/lang/IllegalArgumentException" ["java/lang/RuntimeException", "java/lang/Exception"]).filter goodWord ++ (vx_atS RX4 150 "java/lang/IndexOutOfBoundsException" ["java/lang/RuntimeException", "java/lang/Exception"]).filter goodWord ++ (vx_atS RX4 101 "java/lang/IllegalStateException" ["java/lang/RuntimeException", "java/lang/Exception"]).filter goodWord)
def wsX4_read_r1 : List Cond := [Cond.fieldLink RX4 19 "GatheringCache" "history" "LGatheringCache$History;", Cond.fieldLink RX4 10 "GatheringCache" "now" "LGatheringCache$State;", Cond.methodLink RX4 30 yX4_requireBlock, Cond.static yX4_requireBlock, Cond.initialized RX4, Cond.code yX4_requireBlock cX4_requireBlock 1 none, Cond.classLink RX4 146 "java/lang/IndexOutOfBoundsException", Cond.initialized "java/lang/IndexOutOfBoundsException", Cond.methodLink RX4 187 yX4_isBlock, Cond.static yX4_isBlock, Cond.code yX4_isBlock cX4_isBlock 1 (some .boolean), Cond.methodLink RX4 41 yX4_requirePower, Cond.instanceMethod yX4_requirePower, Cond.selects RX4 yX4_requirePower yX4_requirePower, Cond.code yX4_requirePower cX4_requirePower 1 none, Cond.classLink RX4 97 "java/lang/IllegalStateException", Cond.initialized "java/lang/IllegalStateException", Cond.fieldLink RX4 93 "GatheringCache$State" "on" "Z", Cond.methodLink RX4 44 yX0_save, Cond.instanceMethod yX0_save, Cond.selects RX0 yX0_save yX0_save, Cond.initialized RX0, Cond.code yX0_save cX0_save 3 none, Cond.fieldLink RX0 11 "GatheringCache$History" "states" "[LGatheringCache$State;"]
def wsX4_read_r2 : List Cond := [Cond.fieldLink RX0 18 "GatheringCache$History" "next" "I", Cond.fieldLink RX0 32 "GatheringCache$History" "size" "I", Cond.methodLink RX0 35 Lib.Math.min.name, Cond.static Lib.Math.min.name, Cond.initialized "java/lang/Math", Cond.code Lib.Math.min.name Lib.Math.min.code 2 (some .int), Cond.methodLink RX0 22 yJ9_floorMod_7cf53, Cond.static yJ9_floorMod_7cf53, Cond.initialized RJ9, Cond.code yJ9_floorMod_7cf53 cJ9_floorMod_7cf53 3 (some .int), Cond.methodLink RX0 28 yX1_copyFrom, Cond.instanceMethod yX1_copyFrom, Cond.selects RX1 yX1_copyFrom yX1_copyFrom, Cond.initialized RX1, Cond.code yX1_copyFrom cX1_copyFrom 2 none, Cond.fieldLink RX1 12 "GatheringCache$State" "stick" "LGatheringCache$Stick;", Cond.fieldLink RX1 18 "GatheringCache$State" "diskValues" "[I", Cond.methodLink RX1 39 arraycopyName, Cond.native arraycopyName, Cond.static arraycopyName, Cond.initialized "java/lang/System", Cond.fieldLink RX1 22 "GatheringCache$State" "diskStamps" "[I", Cond.fieldLink RX1 25 "GatheringCache$State" "latestStamps" "[I", Cond.fieldLink RX1 28 "GatheringCache$State" "counts" "[I"]
def wsX4_read_r3 : List Cond := [Cond.fieldLink RX1 45 "GatheringCache$State" "lastStamp" "I", Cond.fieldLink RX1 31 "GatheringCache$State" "on" "Z", Cond.methodLink RX1 35 yX2_copyFrom, Cond.instanceMethod yX2_copyFrom, Cond.selects RX2 yX2_copyFrom yX2_copyFrom, Cond.initialized RX2, Cond.code yX2_copyFrom cX2_copyFrom 3 none, Cond.fieldLink RX2 9 "GatheringCache$Stick" "blocks" "[I", Cond.methodLink RX2 39 arraycopyName, Cond.fieldLink RX2 15 "GatheringCache$Stick" "values" "[I", Cond.fieldLink RX2 18 "GatheringCache$Stick" "stamps" "[I", Cond.fieldLink RX2 21 "GatheringCache$Stick" "uses" "[I", Cond.fieldLink RX2 24 "GatheringCache$Stick" "dirty" "[Z", Cond.fieldLink RX2 45 "GatheringCache$Stick" "lastUse" "I", Cond.fieldLink RX2 28 "GatheringCache$Stick" "limit" "I", Cond.fieldLink RX2 32 "GatheringCache$Stick" "charge" "I", Cond.fieldLink RX2 35 "GatheringCache$Stick" "in" "Z", Cond.methodLink RX4 52 yX1_readBlock, Cond.instanceMethod yX1_readBlock, Cond.selects RX1 yX1_readBlock yX1_readBlock, Cond.code yX1_readBlock cX1_readBlock 3 (some .int), Cond.fieldLink RX1 113 "GatheringCache$Stick" "values" "[I", Cond.methodLink RX1 107 yX2_lineInReach, Cond.instanceMethod yX2_lineInReach]
def wsX4_read_r4 : List Cond := [Cond.selects RX2 yX2_lineInReach yX2_lineInReach, Cond.code yX2_lineInReach cX2_lineInReach 2 (some .int), Cond.methodLink RX2 48 yX2_lineOf, Cond.instanceMethod yX2_lineOf, Cond.selects RX2 yX2_lineOf yX2_lineOf, Cond.code yX2_lineOf cX2_lineOf 3 (some .int), Cond.static yX4_isLine, Cond.code yX4_isLine cX4_isLine 1 (some .boolean), Cond.methodLink RX1 110 yX2_use, Cond.instanceMethod yX2_use, Cond.selects RX2 yX2_use yX2_use, Cond.code yX2_use cX2_use 2 none, Cond.methodLink RX1 116 yX1_diskValueOf, Cond.instanceMethod yX1_diskValueOf, Cond.selects RX1 yX1_diskValueOf yX1_diskValueOf, Cond.code yX1_diskValueOf cX1_diskValueOf 2 (some .int)]
def wsX4_read : List Cond := .code yX4_read cX4_read 2 (some .int) :: ((wsX4_read_r1 ++ (wsX4_read_r2 ++ (wsX4_read_r3 ++ wsX4_read_r4))) ++ wsX40 ++ wsX10 ++ wsX00 ++ wsX20 ++ (vx_atS RX4 150 "java/lang/IndexOutOfBoundsException" ["java/lang/RuntimeException", "java/lang/Exception"]).filter goodWord ++ (vx_atS RX4 101 "java/lang/IllegalStateException" ["java/lang/RuntimeException", "java/lang/Exception"]).filter goodWord)
def wsX4_requireStripe : List Cond := .code yX4_requireStripe cX4_requireStripe 1 none :: ([.classLink RX4 146 "java/lang/IndexOutOfBoundsException", .initialized "java/lang/IndexOutOfBoundsException"] ++ (vx_atS RX4 150 "java/lang/IndexOutOfBoundsException" ["java/lang/RuntimeException", "java/lang/Exception"]).filter goodWord)
def wsX4_requireDestaging : List Cond := .code yX4_requireDestaging cX4_requireDestaging 1 none :: ([.classLink RX4 97 "java/lang/IllegalStateException", .initialized "java/lang/IllegalStateException", .fieldLink RX4 10 "GatheringCache" "now" "LGatheringCache$State;", .methodLink RX4 175 yX1_canDestage, .instanceMethod yX1_canDestage, .selects RX1 yX1_canDestage yX1_canDestage, .initialized RX1, .code yX1_canDestage cX1_canDestage 1 (some .boolean), .fieldLink RX1 31 "GatheringCache$State" "on" "Z", .fieldLink RX1 12 "GatheringCache$State" "stick" "LGatheringCache$Stick;", .fieldLink RX1 49 "GatheringCache$Stick" "in" "Z"] ++ wsX40 ++ wsX10 ++ wsX20 ++ (vx_atS RX4 101 "java/lang/IllegalStateException" ["java/lang/RuntimeException", "java/lang/Exception"]).filter goodWord)
def wsX4_destage_r1 : List Cond := [Cond.fieldLink RX4 19 "GatheringCache" "history" "LGatheringCache$History;", Cond.fieldLink RX4 10 "GatheringCache" "now" "LGatheringCache$State;", Cond.methodLink RX4 56 yX4_requireStripe, Cond.static yX4_requireStripe, Cond.initialized RX4, Cond.code yX4_requireStripe cX4_requireStripe 1 none, Cond.classLink RX4 146 "java/lang/IndexOutOfBoundsException", Cond.initialized "java/lang/IndexOutOfBoundsException", Cond.methodLink RX4 59 yX4_requireDestaging, Cond.instanceMethod yX4_requireDestaging, Cond.selects RX4 yX4_requireDestaging yX4_requireDestaging, Cond.code yX4_requireDestaging cX4_requireDestaging 1 none, Cond.classLink RX4 97 "java/lang/IllegalStateException", Cond.initialized "java/lang/IllegalStateException", Cond.methodLink RX4 175 yX1_canDestage, Cond.instanceMethod yX1_canDestage, Cond.selects RX1 yX1_canDestage yX1_canDestage, Cond.initialized RX1, Cond.code yX1_canDestage cX1_canDestage 1 (some .boolean), Cond.fieldLink RX1 31 "GatheringCache$State" "on" "Z", Cond.fieldLink RX1 12 "GatheringCache$State" "stick" "LGatheringCache$Stick;", Cond.fieldLink RX1 49 "GatheringCache$Stick" "in" "Z", Cond.methodLink RX4 44 yX0_save, Cond.instanceMethod yX0_save]
def wsX4_destage_r2 : List Cond := [Cond.selects RX0 yX0_save yX0_save, Cond.initialized RX0, Cond.code yX0_save cX0_save 3 none, Cond.fieldLink RX0 11 "GatheringCache$History" "states" "[LGatheringCache$State;", Cond.fieldLink RX0 18 "GatheringCache$History" "next" "I", Cond.fieldLink RX0 32 "GatheringCache$History" "size" "I", Cond.methodLink RX0 35 Lib.Math.min.name, Cond.static Lib.Math.min.name, Cond.initialized "java/lang/Math", Cond.code Lib.Math.min.name Lib.Math.min.code 2 (some .int), Cond.methodLink RX0 22 yJ9_floorMod_7cf53, Cond.static yJ9_floorMod_7cf53, Cond.initialized RJ9, Cond.code yJ9_floorMod_7cf53 cJ9_floorMod_7cf53 3 (some .int), Cond.methodLink RX0 28 yX1_copyFrom, Cond.instanceMethod yX1_copyFrom, Cond.selects RX1 yX1_copyFrom yX1_copyFrom, Cond.code yX1_copyFrom cX1_copyFrom 2 none, Cond.fieldLink RX1 18 "GatheringCache$State" "diskValues" "[I", Cond.methodLink RX1 39 arraycopyName, Cond.native arraycopyName, Cond.static arraycopyName, Cond.initialized "java/lang/System", Cond.fieldLink RX1 22 "GatheringCache$State" "diskStamps" "[I"]
def wsX4_destage_r3 : List Cond := [Cond.fieldLink RX1 25 "GatheringCache$State" "latestStamps" "[I", Cond.fieldLink RX1 28 "GatheringCache$State" "counts" "[I", Cond.fieldLink RX1 45 "GatheringCache$State" "lastStamp" "I", Cond.methodLink RX1 35 yX2_copyFrom, Cond.instanceMethod yX2_copyFrom, Cond.selects RX2 yX2_copyFrom yX2_copyFrom, Cond.initialized RX2, Cond.code yX2_copyFrom cX2_copyFrom 3 none, Cond.fieldLink RX2 9 "GatheringCache$Stick" "blocks" "[I", Cond.methodLink RX2 39 arraycopyName, Cond.fieldLink RX2 15 "GatheringCache$Stick" "values" "[I", Cond.fieldLink RX2 18 "GatheringCache$Stick" "stamps" "[I", Cond.fieldLink RX2 21 "GatheringCache$Stick" "uses" "[I", Cond.fieldLink RX2 24 "GatheringCache$Stick" "dirty" "[Z", Cond.fieldLink RX2 45 "GatheringCache$Stick" "lastUse" "I", Cond.fieldLink RX2 28 "GatheringCache$Stick" "limit" "I", Cond.fieldLink RX2 32 "GatheringCache$Stick" "charge" "I", Cond.fieldLink RX2 35 "GatheringCache$Stick" "in" "Z", Cond.methodLink RX4 62 yX1_destageStripe, Cond.instanceMethod yX1_destageStripe, Cond.selects RX1 yX1_destageStripe yX1_destageStripe, Cond.code yX1_destageStripe cX1_destageStripe 4 (some .int), Cond.fieldLink RX1 123 "GatheringCache$Stick" "blocks" "[I", Cond.fieldLink RX1 113 "GatheringCache$Stick" "values" "[I"]
def wsX4_destage_r4 : List Cond := [Cond.fieldLink RX1 126 "GatheringCache$Stick" "stamps" "[I", Cond.fieldLink RX1 129 "GatheringCache$Stick" "dirty" "[Z", Cond.methodLink RX1 119 yX2_isDirtyOf, Cond.instanceMethod yX2_isDirtyOf, Cond.selects RX2 yX2_isDirtyOf yX2_isDirtyOf, Cond.code yX2_isDirtyOf cX2_isDirtyOf 3 (some .boolean), Cond.static yX4_stripeOf, Cond.code yX4_stripeOf cX4_stripeOf 1 (some .int), Cond.methodLink RX1 99 yX1_putOnDisk, Cond.instanceMethod yX1_putOnDisk, Cond.selects RX1 yX1_putOnDisk yX1_putOnDisk, Cond.code yX1_putOnDisk cX1_putOnDisk 4 none, Cond.static yX4_isBlock, Cond.code yX4_isBlock cX4_isBlock 1 (some .boolean), Cond.methodLink RX1 103 yX1_countWrittenTogether, Cond.instanceMethod yX1_countWrittenTogether, Cond.selects RX1 yX1_countWrittenTogether yX1_countWrittenTogether, Cond.code yX1_countWrittenTogether cX1_countWrittenTogether 2 none, Cond.static yX4_readsToWrite, Cond.code yX4_readsToWrite cX4_readsToWrite 1 (some .int), Cond.static yX4_writesToWrite, Cond.code yX4_writesToWrite cX4_writesToWrite 1 (some .int)]
def wsX4_destage : List Cond := .code yX4_destage cX4_destage 2 (some .int) :: ((wsX4_destage_r1 ++ (wsX4_destage_r2 ++ (wsX4_destage_r3 ++ wsX4_destage_r4))) ++ wsX40 ++ wsX10 ++ wsX20 ++ wsX00 ++ (vx_atS RX4 150 "java/lang/IndexOutOfBoundsException" ["java/lang/RuntimeException", "java/lang/Exception"]).filter goodWord ++ (vx_atS RX4 101 "java/lang/IllegalStateException" ["java/lang/RuntimeException", "java/lang/Exception"]).filter goodWord)
def wsX4_destageAll_r1 : List Cond := [Cond.fieldLink RX4 19 "GatheringCache" "history" "LGatheringCache$History;", Cond.fieldLink RX4 10 "GatheringCache" "now" "LGatheringCache$State;", Cond.methodLink RX4 59 yX4_requireDestaging, Cond.instanceMethod yX4_requireDestaging, Cond.selects RX4 yX4_requireDestaging yX4_requireDestaging, Cond.initialized RX4, Cond.code yX4_requireDestaging cX4_requireDestaging 1 none, Cond.classLink RX4 97 "java/lang/IllegalStateException", Cond.initialized "java/lang/IllegalStateException", Cond.methodLink RX4 175 yX1_canDestage, Cond.instanceMethod yX1_canDestage, Cond.selects RX1 yX1_canDestage yX1_canDestage, Cond.initialized RX1, Cond.code yX1_canDestage cX1_canDestage 1 (some .boolean), Cond.fieldLink RX1 31 "GatheringCache$State" "on" "Z", Cond.fieldLink RX1 12 "GatheringCache$State" "stick" "LGatheringCache$Stick;", Cond.fieldLink RX1 49 "GatheringCache$Stick" "in" "Z", Cond.methodLink RX4 44 yX0_save, Cond.instanceMethod yX0_save, Cond.selects RX0 yX0_save yX0_save, Cond.initialized RX0, Cond.code yX0_save cX0_save 3 none, Cond.fieldLink RX0 11 "GatheringCache$History" "states" "[LGatheringCache$State;", Cond.fieldLink RX0 18 "GatheringCache$History" "next" "I"]
def wsX4_destageAll_r2 : List Cond := [Cond.fieldLink RX0 32 "GatheringCache$History" "size" "I", Cond.methodLink RX0 35 Lib.Math.min.name, Cond.static Lib.Math.min.name, Cond.initialized "java/lang/Math", Cond.code Lib.Math.min.name Lib.Math.min.code 2 (some .int), Cond.methodLink RX0 22 yJ9_floorMod_7cf53, Cond.static yJ9_floorMod_7cf53, Cond.initialized RJ9, Cond.code yJ9_floorMod_7cf53 cJ9_floorMod_7cf53 3 (some .int), Cond.methodLink RX0 28 yX1_copyFrom, Cond.instanceMethod yX1_copyFrom, Cond.selects RX1 yX1_copyFrom yX1_copyFrom, Cond.code yX1_copyFrom cX1_copyFrom 2 none, Cond.fieldLink RX1 18 "GatheringCache$State" "diskValues" "[I", Cond.methodLink RX1 39 arraycopyName, Cond.native arraycopyName, Cond.static arraycopyName, Cond.initialized "java/lang/System", Cond.fieldLink RX1 22 "GatheringCache$State" "diskStamps" "[I", Cond.fieldLink RX1 25 "GatheringCache$State" "latestStamps" "[I", Cond.fieldLink RX1 28 "GatheringCache$State" "counts" "[I", Cond.fieldLink RX1 45 "GatheringCache$State" "lastStamp" "I", Cond.methodLink RX1 35 yX2_copyFrom, Cond.instanceMethod yX2_copyFrom]
def wsX4_destageAll_r3 : List Cond := [Cond.selects RX2 yX2_copyFrom yX2_copyFrom, Cond.initialized RX2, Cond.code yX2_copyFrom cX2_copyFrom 3 none, Cond.fieldLink RX2 9 "GatheringCache$Stick" "blocks" "[I", Cond.methodLink RX2 39 arraycopyName, Cond.fieldLink RX2 15 "GatheringCache$Stick" "values" "[I", Cond.fieldLink RX2 18 "GatheringCache$Stick" "stamps" "[I", Cond.fieldLink RX2 21 "GatheringCache$Stick" "uses" "[I", Cond.fieldLink RX2 24 "GatheringCache$Stick" "dirty" "[Z", Cond.fieldLink RX2 45 "GatheringCache$Stick" "lastUse" "I", Cond.fieldLink RX2 28 "GatheringCache$Stick" "limit" "I", Cond.fieldLink RX2 32 "GatheringCache$Stick" "charge" "I", Cond.fieldLink RX2 35 "GatheringCache$Stick" "in" "Z", Cond.methodLink RX4 65 yX1_destageStripes, Cond.instanceMethod yX1_destageStripes, Cond.selects RX1 yX1_destageStripes yX1_destageStripes, Cond.code yX1_destageStripes cX1_destageStripes 3 (some .int), Cond.methodLink RX1 92 yX1_destageStripe, Cond.instanceMethod yX1_destageStripe, Cond.selects RX1 yX1_destageStripe yX1_destageStripe, Cond.code yX1_destageStripe cX1_destageStripe 4 (some .int), Cond.fieldLink RX1 123 "GatheringCache$Stick" "blocks" "[I", Cond.fieldLink RX1 113 "GatheringCache$Stick" "values" "[I", Cond.fieldLink RX1 126 "GatheringCache$Stick" "stamps" "[I"]
def wsX4_destageAll_r4 : List Cond := [Cond.fieldLink RX1 129 "GatheringCache$Stick" "dirty" "[Z", Cond.methodLink RX1 119 yX2_isDirtyOf, Cond.instanceMethod yX2_isDirtyOf, Cond.selects RX2 yX2_isDirtyOf yX2_isDirtyOf, Cond.code yX2_isDirtyOf cX2_isDirtyOf 3 (some .boolean), Cond.static yX4_stripeOf, Cond.code yX4_stripeOf cX4_stripeOf 1 (some .int), Cond.methodLink RX1 99 yX1_putOnDisk, Cond.instanceMethod yX1_putOnDisk, Cond.selects RX1 yX1_putOnDisk yX1_putOnDisk, Cond.code yX1_putOnDisk cX1_putOnDisk 4 none, Cond.static yX4_isBlock, Cond.code yX4_isBlock cX4_isBlock 1 (some .boolean), Cond.methodLink RX1 103 yX1_countWrittenTogether, Cond.instanceMethod yX1_countWrittenTogether, Cond.selects RX1 yX1_countWrittenTogether yX1_countWrittenTogether, Cond.code yX1_countWrittenTogether cX1_countWrittenTogether 2 none, Cond.static yX4_readsToWrite, Cond.code yX4_readsToWrite cX4_readsToWrite 1 (some .int), Cond.static yX4_writesToWrite, Cond.code yX4_writesToWrite cX4_writesToWrite 1 (some .int)]
def wsX4_destageAll : List Cond := .code yX4_destageAll cX4_destageAll 1 (some .int) :: ((wsX4_destageAll_r1 ++ (wsX4_destageAll_r2 ++ (wsX4_destageAll_r3 ++ wsX4_destageAll_r4))) ++ wsX40 ++ wsX10 ++ wsX20 ++ wsX00 ++ (vx_atS RX4 101 "java/lang/IllegalStateException" ["java/lang/RuntimeException", "java/lang/Exception"]).filter goodWord)
def wsX4_pass_r1 : List Cond := [Cond.classLink RX4 34 "java/lang/IllegalArgumentException", Cond.initialized "java/lang/IllegalArgumentException", Cond.fieldLink RX4 19 "GatheringCache" "history" "LGatheringCache$History;", Cond.fieldLink RX4 10 "GatheringCache" "now" "LGatheringCache$State;", Cond.fieldLink RX4 74 "GatheringCache$State" "stick" "LGatheringCache$Stick;", Cond.fieldLink RX4 78 "GatheringCache$Stick" "charge" "I", Cond.methodLink RX4 44 yX0_save, Cond.instanceMethod yX0_save, Cond.selects RX0 yX0_save yX0_save, Cond.initialized RX0, Cond.code yX0_save cX0_save 3 none, Cond.fieldLink RX0 11 "GatheringCache$History" "states" "[LGatheringCache$State;", Cond.fieldLink RX0 18 "GatheringCache$History" "next" "I", Cond.fieldLink RX0 32 "GatheringCache$History" "size" "I", Cond.methodLink RX0 35 Lib.Math.min.name, Cond.static Lib.Math.min.name, Cond.initialized "java/lang/Math", Cond.code Lib.Math.min.name Lib.Math.min.code 2 (some .int), Cond.methodLink RX0 22 yJ9_floorMod_7cf53, Cond.static yJ9_floorMod_7cf53, Cond.initialized RJ9, Cond.code yJ9_floorMod_7cf53 cJ9_floorMod_7cf53 3 (some .int), Cond.methodLink RX0 28 yX1_copyFrom, Cond.instanceMethod yX1_copyFrom]
def wsX4_pass_r2 : List Cond := [Cond.selects RX1 yX1_copyFrom yX1_copyFrom, Cond.initialized RX1, Cond.code yX1_copyFrom cX1_copyFrom 2 none, Cond.fieldLink RX1 12 "GatheringCache$State" "stick" "LGatheringCache$Stick;", Cond.fieldLink RX1 18 "GatheringCache$State" "diskValues" "[I", Cond.methodLink RX1 39 arraycopyName, Cond.native arraycopyName, Cond.static arraycopyName, Cond.initialized "java/lang/System", Cond.fieldLink RX1 22 "GatheringCache$State" "diskStamps" "[I", Cond.fieldLink RX1 25 "GatheringCache$State" "latestStamps" "[I", Cond.fieldLink RX1 28 "GatheringCache$State" "counts" "[I", Cond.fieldLink RX1 45 "GatheringCache$State" "lastStamp" "I", Cond.fieldLink RX1 31 "GatheringCache$State" "on" "Z", Cond.methodLink RX1 35 yX2_copyFrom, Cond.instanceMethod yX2_copyFrom, Cond.selects RX2 yX2_copyFrom yX2_copyFrom, Cond.initialized RX2, Cond.code yX2_copyFrom cX2_copyFrom 3 none, Cond.fieldLink RX2 9 "GatheringCache$Stick" "blocks" "[I", Cond.methodLink RX2 39 arraycopyName, Cond.fieldLink RX2 15 "GatheringCache$Stick" "values" "[I", Cond.fieldLink RX2 18 "GatheringCache$Stick" "stamps" "[I", Cond.fieldLink RX2 21 "GatheringCache$Stick" "uses" "[I"]
def wsX4_pass_r3 : List Cond := [Cond.fieldLink RX2 24 "GatheringCache$Stick" "dirty" "[Z", Cond.fieldLink RX2 45 "GatheringCache$Stick" "lastUse" "I", Cond.fieldLink RX2 28 "GatheringCache$Stick" "limit" "I", Cond.fieldLink RX2 32 "GatheringCache$Stick" "charge" "I", Cond.fieldLink RX2 35 "GatheringCache$Stick" "in" "Z", Cond.methodLink RX4 71 yX1_letPass, Cond.instanceMethod yX1_letPass, Cond.selects RX1 yX1_letPass yX1_letPass, Cond.code yX1_letPass cX1_letPass 3 none, Cond.methodLink RX1 133 yX1_canDestage, Cond.instanceMethod yX1_canDestage, Cond.selects RX1 yX1_canDestage yX1_canDestage, Cond.code yX1_canDestage cX1_canDestage 1 (some .boolean), Cond.fieldLink RX1 49 "GatheringCache$Stick" "in" "Z", Cond.methodLink RX1 136 yX2_load, Cond.instanceMethod yX2_load, Cond.selects RX2 yX2_load yX2_load, Cond.code yX2_load cX2_load 1 none, Cond.methodLink RX2 70 Lib.Math.min.name, Cond.methodLink RX1 139 yX2_drain, Cond.instanceMethod yX2_drain, Cond.selects RX2 yX2_drain yX2_drain, Cond.code yX2_drain cX2_drain 3 (some .int), Cond.methodLink RX2 76 Lib.Math.max.name]
def wsX4_pass_r4 : List Cond := [Cond.static Lib.Math.max.name, Cond.code Lib.Math.max.name Lib.Math.max.code 2 (some .int), Cond.methodLink RX2 79 yX2_dirtyLines, Cond.instanceMethod yX2_dirtyLines, Cond.selects RX2 yX2_dirtyLines yX2_dirtyLines, Cond.code yX2_dirtyLines cX2_dirtyLines 3 (some .int), Cond.methodLink RX2 83 yX2_empty, Cond.instanceMethod yX2_empty, Cond.selects RX2 yX2_empty yX2_empty, Cond.code yX2_empty cX2_empty 2 none, Cond.static yX4_isLine, Cond.initialized RX4, Cond.code yX4_isLine cX4_isLine 1 (some .boolean)]
def wsX4_pass : List Cond := .code yX4_pass cX4_pass 2 (some .int) :: ((wsX4_pass_r1 ++ (wsX4_pass_r2 ++ (wsX4_pass_r3 ++ wsX4_pass_r4))) ++ wsX40 ++ wsX10 ++ wsX20 ++ wsX00 ++ (vx_atS RX4 38 "java/lang/IllegalArgumentException" ["java/lang/RuntimeException", "java/lang/Exception"]).filter goodWord)
def wsX4_setLimit_r1 : List Cond := [Cond.classLink RX4 34 "java/lang/IllegalArgumentException", Cond.initialized "java/lang/IllegalArgumentException", Cond.fieldLink RX4 19 "GatheringCache" "history" "LGatheringCache$History;", Cond.fieldLink RX4 10 "GatheringCache" "now" "LGatheringCache$State;", Cond.fieldLink RX4 74 "GatheringCache$State" "stick" "LGatheringCache$Stick;", Cond.fieldLink RX4 78 "GatheringCache$Stick" "charge" "I", Cond.methodLink RX4 44 yX0_save, Cond.instanceMethod yX0_save, Cond.selects RX0 yX0_save yX0_save, Cond.initialized RX0, Cond.code yX0_save cX0_save 3 none, Cond.fieldLink RX0 11 "GatheringCache$History" "states" "[LGatheringCache$State;", Cond.fieldLink RX0 18 "GatheringCache$History" "next" "I", Cond.fieldLink RX0 32 "GatheringCache$History" "size" "I", Cond.methodLink RX0 35 Lib.Math.min.name, Cond.static Lib.Math.min.name, Cond.initialized "java/lang/Math", Cond.code Lib.Math.min.name Lib.Math.min.code 2 (some .int), Cond.methodLink RX0 22 yJ9_floorMod_7cf53, Cond.static yJ9_floorMod_7cf53, Cond.initialized RJ9, Cond.code yJ9_floorMod_7cf53 cJ9_floorMod_7cf53 3 (some .int), Cond.methodLink RX0 28 yX1_copyFrom, Cond.instanceMethod yX1_copyFrom]
def wsX4_setLimit_r2 : List Cond := [Cond.selects RX1 yX1_copyFrom yX1_copyFrom, Cond.initialized RX1, Cond.code yX1_copyFrom cX1_copyFrom 2 none, Cond.fieldLink RX1 12 "GatheringCache$State" "stick" "LGatheringCache$Stick;", Cond.fieldLink RX1 18 "GatheringCache$State" "diskValues" "[I", Cond.methodLink RX1 39 arraycopyName, Cond.native arraycopyName, Cond.static arraycopyName, Cond.initialized "java/lang/System", Cond.fieldLink RX1 22 "GatheringCache$State" "diskStamps" "[I", Cond.fieldLink RX1 25 "GatheringCache$State" "latestStamps" "[I", Cond.fieldLink RX1 28 "GatheringCache$State" "counts" "[I", Cond.fieldLink RX1 45 "GatheringCache$State" "lastStamp" "I", Cond.fieldLink RX1 31 "GatheringCache$State" "on" "Z", Cond.methodLink RX1 35 yX2_copyFrom, Cond.instanceMethod yX2_copyFrom, Cond.selects RX2 yX2_copyFrom yX2_copyFrom, Cond.initialized RX2, Cond.code yX2_copyFrom cX2_copyFrom 3 none, Cond.fieldLink RX2 9 "GatheringCache$Stick" "blocks" "[I", Cond.methodLink RX2 39 arraycopyName, Cond.fieldLink RX2 15 "GatheringCache$Stick" "values" "[I", Cond.fieldLink RX2 18 "GatheringCache$Stick" "stamps" "[I", Cond.fieldLink RX2 21 "GatheringCache$Stick" "uses" "[I"]
def wsX4_setLimit_r3 : List Cond := [Cond.fieldLink RX2 24 "GatheringCache$Stick" "dirty" "[Z", Cond.fieldLink RX2 45 "GatheringCache$Stick" "lastUse" "I", Cond.fieldLink RX2 28 "GatheringCache$Stick" "limit" "I", Cond.fieldLink RX2 32 "GatheringCache$Stick" "charge" "I", Cond.fieldLink RX2 35 "GatheringCache$Stick" "in" "Z", Cond.methodLink RX4 86 yX2_limitTo, Cond.instanceMethod yX2_limitTo, Cond.selects RX2 yX2_limitTo yX2_limitTo, Cond.code yX2_limitTo cX2_limitTo 2 none, Cond.methodLink RX2 70 Lib.Math.min.name]
def wsX4_setLimit : List Cond := .code yX4_setLimit cX4_setLimit 2 (some .int) :: ((wsX4_setLimit_r1 ++ (wsX4_setLimit_r2 ++ wsX4_setLimit_r3)) ++ wsX40 ++ wsX10 ++ wsX20 ++ wsX00 ++ (vx_atS RX4 38 "java/lang/IllegalArgumentException" ["java/lang/RuntimeException", "java/lang/Exception"]).filter goodWord)
def wsX4_power_r1 : List Cond := [Cond.fieldLink RX4 19 "GatheringCache" "history" "LGatheringCache$History;", Cond.fieldLink RX4 10 "GatheringCache" "now" "LGatheringCache$State;", Cond.methodLink RX4 44 yX0_save, Cond.instanceMethod yX0_save, Cond.selects RX0 yX0_save yX0_save, Cond.initialized RX0, Cond.code yX0_save cX0_save 3 none, Cond.fieldLink RX0 11 "GatheringCache$History" "states" "[LGatheringCache$State;", Cond.fieldLink RX0 18 "GatheringCache$History" "next" "I", Cond.fieldLink RX0 32 "GatheringCache$History" "size" "I", Cond.methodLink RX0 35 Lib.Math.min.name, Cond.static Lib.Math.min.name, Cond.initialized "java/lang/Math", Cond.code Lib.Math.min.name Lib.Math.min.code 2 (some .int), Cond.methodLink RX0 22 yJ9_floorMod_7cf53, Cond.static yJ9_floorMod_7cf53, Cond.initialized RJ9, Cond.code yJ9_floorMod_7cf53 cJ9_floorMod_7cf53 3 (some .int), Cond.methodLink RX0 28 yX1_copyFrom, Cond.instanceMethod yX1_copyFrom, Cond.selects RX1 yX1_copyFrom yX1_copyFrom, Cond.initialized RX1, Cond.code yX1_copyFrom cX1_copyFrom 2 none, Cond.fieldLink RX1 12 "GatheringCache$State" "stick" "LGatheringCache$Stick;"]
def wsX4_power_r2 : List Cond := [Cond.fieldLink RX1 18 "GatheringCache$State" "diskValues" "[I", Cond.methodLink RX1 39 arraycopyName, Cond.native arraycopyName, Cond.static arraycopyName, Cond.initialized "java/lang/System", Cond.fieldLink RX1 22 "GatheringCache$State" "diskStamps" "[I", Cond.fieldLink RX1 25 "GatheringCache$State" "latestStamps" "[I", Cond.fieldLink RX1 28 "GatheringCache$State" "counts" "[I", Cond.fieldLink RX1 45 "GatheringCache$State" "lastStamp" "I", Cond.fieldLink RX1 31 "GatheringCache$State" "on" "Z", Cond.methodLink RX1 35 yX2_copyFrom, Cond.instanceMethod yX2_copyFrom, Cond.selects RX2 yX2_copyFrom yX2_copyFrom, Cond.initialized RX2, Cond.code yX2_copyFrom cX2_copyFrom 3 none, Cond.fieldLink RX2 9 "GatheringCache$Stick" "blocks" "[I", Cond.methodLink RX2 39 arraycopyName, Cond.fieldLink RX2 15 "GatheringCache$Stick" "values" "[I", Cond.fieldLink RX2 18 "GatheringCache$Stick" "stamps" "[I", Cond.fieldLink RX2 21 "GatheringCache$Stick" "uses" "[I", Cond.fieldLink RX2 24 "GatheringCache$Stick" "dirty" "[Z", Cond.fieldLink RX2 45 "GatheringCache$Stick" "lastUse" "I", Cond.fieldLink RX2 28 "GatheringCache$Stick" "limit" "I", Cond.fieldLink RX2 32 "GatheringCache$Stick" "charge" "I"]
def wsX4_power_r3 : List Cond := [Cond.fieldLink RX2 35 "GatheringCache$Stick" "in" "Z", Cond.methodLink RX4 89 yX1_switchPower, Cond.instanceMethod yX1_switchPower, Cond.selects RX1 yX1_switchPower yX1_switchPower, Cond.code yX1_switchPower cX1_switchPower 3 (some .int), Cond.fieldLink RX1 49 "GatheringCache$Stick" "in" "Z", Cond.fieldLink RX1 52 "GatheringCache$Stick" "charge" "I", Cond.methodLink RX1 143 yX1_destageStripes, Cond.instanceMethod yX1_destageStripes, Cond.selects RX1 yX1_destageStripes yX1_destageStripes, Cond.code yX1_destageStripes cX1_destageStripes 3 (some .int), Cond.methodLink RX1 92 yX1_destageStripe, Cond.instanceMethod yX1_destageStripe, Cond.selects RX1 yX1_destageStripe yX1_destageStripe, Cond.code yX1_destageStripe cX1_destageStripe 4 (some .int), Cond.fieldLink RX1 123 "GatheringCache$Stick" "blocks" "[I", Cond.fieldLink RX1 113 "GatheringCache$Stick" "values" "[I", Cond.fieldLink RX1 126 "GatheringCache$Stick" "stamps" "[I", Cond.fieldLink RX1 129 "GatheringCache$Stick" "dirty" "[Z", Cond.methodLink RX1 119 yX2_isDirtyOf, Cond.instanceMethod yX2_isDirtyOf, Cond.selects RX2 yX2_isDirtyOf yX2_isDirtyOf, Cond.code yX2_isDirtyOf cX2_isDirtyOf 3 (some .boolean), Cond.static yX4_stripeOf]
def wsX4_power_r4 : List Cond := [Cond.initialized RX4, Cond.code yX4_stripeOf cX4_stripeOf 1 (some .int), Cond.methodLink RX1 99 yX1_putOnDisk, Cond.instanceMethod yX1_putOnDisk, Cond.selects RX1 yX1_putOnDisk yX1_putOnDisk, Cond.code yX1_putOnDisk cX1_putOnDisk 4 none, Cond.static yX4_isBlock, Cond.code yX4_isBlock cX4_isBlock 1 (some .boolean), Cond.methodLink RX1 103 yX1_countWrittenTogether, Cond.instanceMethod yX1_countWrittenTogether, Cond.selects RX1 yX1_countWrittenTogether yX1_countWrittenTogether, Cond.code yX1_countWrittenTogether cX1_countWrittenTogether 2 none, Cond.static yX4_readsToWrite, Cond.code yX4_readsToWrite cX4_readsToWrite 1 (some .int), Cond.static yX4_writesToWrite, Cond.code yX4_writesToWrite cX4_writesToWrite 1 (some .int)]
def wsX4_power : List Cond := .code yX4_power cX4_power 2 (some .int) :: ((wsX4_power_r1 ++ (wsX4_power_r2 ++ (wsX4_power_r3 ++ wsX4_power_r4))) ++ wsX40 ++ wsX00 ++ wsX10 ++ wsX20)
def wsX4_moveStick_r1 : List Cond := [Cond.classLink RX4 97 "java/lang/IllegalStateException", Cond.initialized "java/lang/IllegalStateException", Cond.fieldLink RX4 10 "GatheringCache" "now" "LGatheringCache$State;", Cond.fieldLink RX4 93 "GatheringCache$State" "on" "Z", Cond.fieldLink RX4 19 "GatheringCache" "history" "LGatheringCache$History;", Cond.methodLink RX4 44 yX0_save, Cond.instanceMethod yX0_save, Cond.selects RX0 yX0_save yX0_save, Cond.initialized RX0, Cond.code yX0_save cX0_save 3 none, Cond.fieldLink RX0 11 "GatheringCache$History" "states" "[LGatheringCache$State;", Cond.fieldLink RX0 18 "GatheringCache$History" "next" "I", Cond.fieldLink RX0 32 "GatheringCache$History" "size" "I", Cond.methodLink RX0 35 Lib.Math.min.name, Cond.static Lib.Math.min.name, Cond.initialized "java/lang/Math", Cond.code Lib.Math.min.name Lib.Math.min.code 2 (some .int), Cond.methodLink RX0 22 yJ9_floorMod_7cf53, Cond.static yJ9_floorMod_7cf53, Cond.initialized RJ9, Cond.code yJ9_floorMod_7cf53 cJ9_floorMod_7cf53 3 (some .int), Cond.methodLink RX0 28 yX1_copyFrom, Cond.instanceMethod yX1_copyFrom, Cond.selects RX1 yX1_copyFrom yX1_copyFrom]
def wsX4_moveStick_r2 : List Cond := [Cond.initialized RX1, Cond.code yX1_copyFrom cX1_copyFrom 2 none, Cond.fieldLink RX1 12 "GatheringCache$State" "stick" "LGatheringCache$Stick;", Cond.fieldLink RX1 18 "GatheringCache$State" "diskValues" "[I", Cond.methodLink RX1 39 arraycopyName, Cond.native arraycopyName, Cond.static arraycopyName, Cond.initialized "java/lang/System", Cond.fieldLink RX1 22 "GatheringCache$State" "diskStamps" "[I", Cond.fieldLink RX1 25 "GatheringCache$State" "latestStamps" "[I", Cond.fieldLink RX1 28 "GatheringCache$State" "counts" "[I", Cond.fieldLink RX1 45 "GatheringCache$State" "lastStamp" "I", Cond.fieldLink RX1 31 "GatheringCache$State" "on" "Z", Cond.methodLink RX1 35 yX2_copyFrom, Cond.instanceMethod yX2_copyFrom, Cond.selects RX2 yX2_copyFrom yX2_copyFrom, Cond.initialized RX2, Cond.code yX2_copyFrom cX2_copyFrom 3 none, Cond.fieldLink RX2 9 "GatheringCache$Stick" "blocks" "[I", Cond.methodLink RX2 39 arraycopyName, Cond.fieldLink RX2 15 "GatheringCache$Stick" "values" "[I", Cond.fieldLink RX2 18 "GatheringCache$Stick" "stamps" "[I", Cond.fieldLink RX2 21 "GatheringCache$Stick" "uses" "[I", Cond.fieldLink RX2 24 "GatheringCache$Stick" "dirty" "[Z"]
def wsX4_moveStick_r3 : List Cond := [Cond.fieldLink RX2 45 "GatheringCache$Stick" "lastUse" "I", Cond.fieldLink RX2 28 "GatheringCache$Stick" "limit" "I", Cond.fieldLink RX2 32 "GatheringCache$Stick" "charge" "I", Cond.fieldLink RX2 35 "GatheringCache$Stick" "in" "Z", Cond.methodLink RX4 102 yX1_placeStick, Cond.instanceMethod yX1_placeStick, Cond.selects RX1 yX1_placeStick yX1_placeStick, Cond.code yX1_placeStick cX1_placeStick 3 (some .int), Cond.fieldLink RX1 49 "GatheringCache$Stick" "in" "Z", Cond.methodLink RX1 146 yX1_emptyOutdatedLines, Cond.instanceMethod yX1_emptyOutdatedLines, Cond.selects RX1 yX1_emptyOutdatedLines yX1_emptyOutdatedLines, Cond.code yX1_emptyOutdatedLines cX1_emptyOutdatedLines 4 (some .int), Cond.fieldLink RX1 123 "GatheringCache$Stick" "blocks" "[I", Cond.fieldLink RX1 126 "GatheringCache$Stick" "stamps" "[I", Cond.static yX4_isBlock, Cond.initialized RX4, Cond.code yX4_isBlock cX4_isBlock 1 (some .boolean), Cond.methodLink RX1 149 yX2_empty, Cond.instanceMethod yX2_empty, Cond.selects RX2 yX2_empty yX2_empty, Cond.code yX2_empty cX2_empty 2 none, Cond.static yX4_isLine, Cond.code yX4_isLine cX4_isLine 1 (some .boolean)]
def wsX4_moveStick : List Cond := .code yX4_moveStick cX4_moveStick 2 (some .int) :: ((wsX4_moveStick_r1 ++ (wsX4_moveStick_r2 ++ wsX4_moveStick_r3)) ++ wsX40 ++ wsX10 ++ wsX00 ++ wsX20 ++ (vx_atS RX4 101 "java/lang/IllegalStateException" ["java/lang/RuntimeException", "java/lang/Exception"]).filter goodWord)
def wsX4_undo_r1 : List Cond := [Cond.classLink RX4 97 "java/lang/IllegalStateException", Cond.initialized "java/lang/IllegalStateException", Cond.fieldLink RX4 19 "GatheringCache" "history" "LGatheringCache$History;", Cond.fieldLink RX4 135 "GatheringCache$History" "size" "I", Cond.fieldLink RX4 10 "GatheringCache" "now" "LGatheringCache$State;", Cond.methodLink RX4 140 yX0_restore, Cond.instanceMethod yX0_restore, Cond.selects RX0 yX0_restore yX0_restore, Cond.initialized RX0, Cond.code yX0_restore cX0_restore 3 none, Cond.fieldLink RX0 18 "GatheringCache$History" "next" "I", Cond.fieldLink RX0 32 "GatheringCache$History" "size" "I", Cond.methodLink RX0 38 Lib.Math.max.name, Cond.static Lib.Math.max.name, Cond.initialized "java/lang/Math", Cond.code Lib.Math.max.name Lib.Math.max.code 2 (some .int), Cond.fieldLink RX0 11 "GatheringCache$History" "states" "[LGatheringCache$State;", Cond.methodLink RX0 22 yJ9_floorMod_7cf53, Cond.static yJ9_floorMod_7cf53, Cond.initialized RJ9, Cond.code yJ9_floorMod_7cf53 cJ9_floorMod_7cf53 3 (some .int), Cond.methodLink RX0 28 yX1_copyFrom, Cond.instanceMethod yX1_copyFrom, Cond.selects RX1 yX1_copyFrom yX1_copyFrom]
def wsX4_undo_r2 : List Cond := [Cond.initialized RX1, Cond.code yX1_copyFrom cX1_copyFrom 2 none, Cond.fieldLink RX1 12 "GatheringCache$State" "stick" "LGatheringCache$Stick;", Cond.fieldLink RX1 18 "GatheringCache$State" "diskValues" "[I", Cond.methodLink RX1 39 arraycopyName, Cond.native arraycopyName, Cond.static arraycopyName, Cond.initialized "java/lang/System", Cond.fieldLink RX1 22 "GatheringCache$State" "diskStamps" "[I", Cond.fieldLink RX1 25 "GatheringCache$State" "latestStamps" "[I", Cond.fieldLink RX1 28 "GatheringCache$State" "counts" "[I", Cond.fieldLink RX1 45 "GatheringCache$State" "lastStamp" "I", Cond.fieldLink RX1 31 "GatheringCache$State" "on" "Z", Cond.methodLink RX1 35 yX2_copyFrom, Cond.instanceMethod yX2_copyFrom, Cond.selects RX2 yX2_copyFrom yX2_copyFrom, Cond.initialized RX2, Cond.code yX2_copyFrom cX2_copyFrom 3 none, Cond.fieldLink RX2 9 "GatheringCache$Stick" "blocks" "[I", Cond.methodLink RX2 39 arraycopyName, Cond.fieldLink RX2 15 "GatheringCache$Stick" "values" "[I", Cond.fieldLink RX2 18 "GatheringCache$Stick" "stamps" "[I", Cond.fieldLink RX2 21 "GatheringCache$Stick" "uses" "[I", Cond.fieldLink RX2 24 "GatheringCache$Stick" "dirty" "[Z"]
def wsX4_undo_r3 : List Cond := [Cond.fieldLink RX2 45 "GatheringCache$Stick" "lastUse" "I", Cond.fieldLink RX2 28 "GatheringCache$Stick" "limit" "I", Cond.fieldLink RX2 32 "GatheringCache$Stick" "charge" "I", Cond.fieldLink RX2 35 "GatheringCache$Stick" "in" "Z"]
def wsX4_undo : List Cond := .code yX4_undo cX4_undo 1 (some .int) :: ((wsX4_undo_r1 ++ (wsX4_undo_r2 ++ wsX4_undo_r3)) ++ wsX40 ++ wsX00 ++ wsX10 ++ wsX20 ++ (vx_atS RX4 101 "java/lang/IllegalStateException" ["java/lang/RuntimeException", "java/lang/Exception"]).filter goodWord)
def wsX4_isOn : List Cond := .code yX4_isOn cX4_isOn 1 (some .boolean) :: ([.fieldLink RX4 10 "GatheringCache" "now" "LGatheringCache$State;", .fieldLink RX4 93 "GatheringCache$State" "on" "Z"] ++ wsX40 ++ wsX10)
def wsX4_isIn : List Cond := .code yX4_isIn cX4_isIn 1 (some .boolean) :: ([.fieldLink RX4 10 "GatheringCache" "now" "LGatheringCache$State;", .fieldLink RX4 74 "GatheringCache$State" "stick" "LGatheringCache$Stick;", .fieldLink RX4 143 "GatheringCache$Stick" "in" "Z"] ++ wsX40 ++ wsX10 ++ wsX20)
def wsX4_charge : List Cond := .code yX4_charge cX4_charge 1 (some .int) :: ([.fieldLink RX4 10 "GatheringCache" "now" "LGatheringCache$State;", .fieldLink RX4 74 "GatheringCache$State" "stick" "LGatheringCache$Stick;", .fieldLink RX4 78 "GatheringCache$Stick" "charge" "I"] ++ wsX40 ++ wsX10 ++ wsX20)
def wsX4_line : List Cond := .code yX4_line cX4_line 4 (some .int) :: ([.classLink RX4 146 "java/lang/IndexOutOfBoundsException", .initialized "java/lang/IndexOutOfBoundsException", .classLink RX4 34 "java/lang/IllegalArgumentException", .initialized "java/lang/IllegalArgumentException", .fieldLink RX4 10 "GatheringCache" "now" "LGatheringCache$State;", .fieldLink RX4 74 "GatheringCache$State" "stick" "LGatheringCache$Stick;", .methodLink RX4 153 yX2_partOf, .instanceMethod yX2_partOf, .selects RX2 yX2_partOf yX2_partOf, .initialized RX2, .code yX2_partOf cX2_partOf 3 (some .int), .fieldLink RX2 9 "GatheringCache$Stick" "blocks" "[I", .fieldLink RX2 15 "GatheringCache$Stick" "values" "[I", .fieldLink RX2 18 "GatheringCache$Stick" "stamps" "[I", .fieldLink RX2 21 "GatheringCache$Stick" "uses" "[I", .fieldLink RX2 24 "GatheringCache$Stick" "dirty" "[Z", .static yX4_isLine, .initialized RX4, .code yX4_isLine cX4_isLine 1 (some .boolean)] ++ wsX40 ++ wsX10 ++ wsX20 ++ (vx_atS RX4 150 "java/lang/IndexOutOfBoundsException" ["java/lang/RuntimeException", "java/lang/Exception"]).filter goodWord ++ (vx_atS RX4 38 "java/lang/IllegalArgumentException" ["java/lang/RuntimeException", "java/lang/Exception"]).filter goodWord)
def wsX4_dirtyOf : List Cond := .code yX4_dirtyOf cX4_dirtyOf 2 (some .int) :: ([.fieldLink RX4 10 "GatheringCache" "now" "LGatheringCache$State;", .fieldLink RX4 74 "GatheringCache$State" "stick" "LGatheringCache$Stick;", .methodLink RX4 56 yX4_requireStripe, .static yX4_requireStripe, .initialized RX4, .code yX4_requireStripe cX4_requireStripe 1 none, .classLink RX4 146 "java/lang/IndexOutOfBoundsException", .initialized "java/lang/IndexOutOfBoundsException", .methodLink RX4 156 yX2_dirtyLinesOf, .instanceMethod yX2_dirtyLinesOf, .selects RX2 yX2_dirtyLinesOf yX2_dirtyLinesOf, .initialized RX2, .code yX2_dirtyLinesOf cX2_dirtyLinesOf 4 (some .int), .methodLink RX2 66 yX2_isDirtyOf, .instanceMethod yX2_isDirtyOf, .selects RX2 yX2_isDirtyOf yX2_isDirtyOf, .code yX2_isDirtyOf cX2_isDirtyOf 3 (some .boolean), .fieldLink RX2 24 "GatheringCache$Stick" "dirty" "[Z", .fieldLink RX2 9 "GatheringCache$Stick" "blocks" "[I", .static yX4_stripeOf, .code yX4_stripeOf cX4_stripeOf 1 (some .int)] ++ wsX40 ++ wsX10 ++ wsX20 ++ (vx_atS RX4 150 "java/lang/IndexOutOfBoundsException" ["java/lang/RuntimeException", "java/lang/Exception"]).filter goodWord)
def wsX4_dirty : List Cond := .code yX4_dirty cX4_dirty 1 (some .int) :: ([.fieldLink RX4 10 "GatheringCache" "now" "LGatheringCache$State;", .fieldLink RX4 74 "GatheringCache$State" "stick" "LGatheringCache$Stick;", .methodLink RX4 159 yX2_dirtyLines, .instanceMethod yX2_dirtyLines, .selects RX2 yX2_dirtyLines yX2_dirtyLines, .initialized RX2, .code yX2_dirtyLines cX2_dirtyLines 3 (some .int), .fieldLink RX2 24 "GatheringCache$Stick" "dirty" "[Z"] ++ wsX40 ++ wsX10 ++ wsX20)
def wsX4_used : List Cond := .code yX4_used cX4_used 1 (some .int) :: ([.fieldLink RX4 10 "GatheringCache" "now" "LGatheringCache$State;", .fieldLink RX4 74 "GatheringCache$State" "stick" "LGatheringCache$Stick;", .methodLink RX4 162 yX2_usedLines, .instanceMethod yX2_usedLines, .selects RX2 yX2_usedLines yX2_usedLines, .initialized RX2, .code yX2_usedLines cX2_usedLines 3 (some .int), .fieldLink RX2 9 "GatheringCache$Stick" "blocks" "[I"] ++ wsX40 ++ wsX10 ++ wsX20)
def wsX4_onDisk : List Cond := .code yX4_onDisk cX4_onDisk 2 (some .int) :: ([.fieldLink RX4 10 "GatheringCache" "now" "LGatheringCache$State;", .methodLink RX4 30 yX4_requireBlock, .static yX4_requireBlock, .initialized RX4, .code yX4_requireBlock cX4_requireBlock 1 none, .classLink RX4 146 "java/lang/IndexOutOfBoundsException", .initialized "java/lang/IndexOutOfBoundsException", .methodLink RX4 187 yX4_isBlock, .static yX4_isBlock, .code yX4_isBlock cX4_isBlock 1 (some .boolean), .methodLink RX4 165 yX1_diskValueOf, .instanceMethod yX1_diskValueOf, .selects RX1 yX1_diskValueOf yX1_diskValueOf, .initialized RX1, .code yX1_diskValueOf cX1_diskValueOf 2 (some .int), .fieldLink RX1 18 "GatheringCache$State" "diskValues" "[I"] ++ wsX40 ++ wsX10 ++ (vx_atS RX4 150 "java/lang/IndexOutOfBoundsException" ["java/lang/RuntimeException", "java/lang/Exception"]).filter goodWord)
def wsX4_isFound_r1 : List Cond := [Cond.fieldLink RX4 10 "GatheringCache" "now" "LGatheringCache$State;", Cond.methodLink RX4 30 yX4_requireBlock, Cond.static yX4_requireBlock, Cond.initialized RX4, Cond.code yX4_requireBlock cX4_requireBlock 1 none, Cond.classLink RX4 146 "java/lang/IndexOutOfBoundsException", Cond.initialized "java/lang/IndexOutOfBoundsException", Cond.methodLink RX4 187 yX4_isBlock, Cond.static yX4_isBlock, Cond.code yX4_isBlock cX4_isBlock 1 (some .boolean), Cond.methodLink RX4 168 yX1_finds, Cond.instanceMethod yX1_finds, Cond.selects RX1 yX1_finds yX1_finds, Cond.initialized RX1, Cond.code yX1_finds cX1_finds 3 (some .boolean), Cond.fieldLink RX1 22 "GatheringCache$State" "diskStamps" "[I", Cond.fieldLink RX1 25 "GatheringCache$State" "latestStamps" "[I", Cond.fieldLink RX1 12 "GatheringCache$State" "stick" "LGatheringCache$Stick;", Cond.fieldLink RX1 126 "GatheringCache$Stick" "stamps" "[I", Cond.methodLink RX1 107 yX2_lineInReach, Cond.instanceMethod yX2_lineInReach, Cond.selects RX2 yX2_lineInReach yX2_lineInReach, Cond.initialized RX2, Cond.code yX2_lineInReach cX2_lineInReach 2 (some .int)]
def wsX4_isFound_r2 : List Cond := [Cond.fieldLink RX2 35 "GatheringCache$Stick" "in" "Z", Cond.methodLink RX2 48 yX2_lineOf, Cond.instanceMethod yX2_lineOf, Cond.selects RX2 yX2_lineOf yX2_lineOf, Cond.code yX2_lineOf cX2_lineOf 3 (some .int), Cond.fieldLink RX2 9 "GatheringCache$Stick" "blocks" "[I", Cond.static yX4_isLine, Cond.code yX4_isLine cX4_isLine 1 (some .boolean)]
def wsX4_isFound : List Cond := .code yX4_isFound cX4_isFound 2 (some .boolean) :: ((wsX4_isFound_r1 ++ wsX4_isFound_r2) ++ wsX40 ++ wsX10 ++ wsX20 ++ (vx_atS RX4 150 "java/lang/IndexOutOfBoundsException" ["java/lang/RuntimeException", "java/lang/Exception"]).filter goodWord)
def wsX4_missing_r1 : List Cond := [Cond.fieldLink RX4 10 "GatheringCache" "now" "LGatheringCache$State;", Cond.methodLink RX4 168 yX1_finds, Cond.instanceMethod yX1_finds, Cond.selects RX1 yX1_finds yX1_finds, Cond.initialized RX1, Cond.code yX1_finds cX1_finds 3 (some .boolean), Cond.fieldLink RX1 22 "GatheringCache$State" "diskStamps" "[I", Cond.fieldLink RX1 25 "GatheringCache$State" "latestStamps" "[I", Cond.fieldLink RX1 12 "GatheringCache$State" "stick" "LGatheringCache$Stick;", Cond.fieldLink RX1 126 "GatheringCache$Stick" "stamps" "[I", Cond.static yX4_isBlock, Cond.initialized RX4, Cond.code yX4_isBlock cX4_isBlock 1 (some .boolean), Cond.methodLink RX1 107 yX2_lineInReach, Cond.instanceMethod yX2_lineInReach, Cond.selects RX2 yX2_lineInReach yX2_lineInReach, Cond.initialized RX2, Cond.code yX2_lineInReach cX2_lineInReach 2 (some .int), Cond.fieldLink RX2 35 "GatheringCache$Stick" "in" "Z", Cond.methodLink RX2 48 yX2_lineOf, Cond.instanceMethod yX2_lineOf, Cond.selects RX2 yX2_lineOf yX2_lineOf, Cond.code yX2_lineOf cX2_lineOf 3 (some .int), Cond.fieldLink RX2 9 "GatheringCache$Stick" "blocks" "[I"]
def wsX4_missing_r2 : List Cond := [Cond.static yX4_isLine, Cond.code yX4_isLine cX4_isLine 1 (some .boolean)]
def wsX4_missing : List Cond := .code yX4_missing cX4_missing 3 (some .int) :: ((wsX4_missing_r1 ++ wsX4_missing_r2) ++ wsX40 ++ wsX10 ++ wsX20)
def wsX4_ifWritten_r1 : List Cond := [Cond.fieldLink RX4 10 "GatheringCache" "now" "LGatheringCache$State;", Cond.fieldLink RX4 93 "GatheringCache$State" "on" "Z", Cond.methodLink RX4 30 yX4_requireBlock, Cond.static yX4_requireBlock, Cond.initialized RX4, Cond.code yX4_requireBlock cX4_requireBlock 1 none, Cond.classLink RX4 146 "java/lang/IndexOutOfBoundsException", Cond.initialized "java/lang/IndexOutOfBoundsException", Cond.methodLink RX4 187 yX4_isBlock, Cond.static yX4_isBlock, Cond.code yX4_isBlock cX4_isBlock 1 (some .boolean), Cond.methodLink RX4 172 yX1_operationsIfWritten, Cond.instanceMethod yX1_operationsIfWritten, Cond.selects RX1 yX1_operationsIfWritten yX1_operationsIfWritten, Cond.initialized RX1, Cond.code yX1_operationsIfWritten cX1_operationsIfWritten 3 (some .int), Cond.fieldLink RX1 12 "GatheringCache$State" "stick" "LGatheringCache$Stick;", Cond.methodLink RX1 66 yX1_gathers, Cond.instanceMethod yX1_gathers, Cond.selects RX1 yX1_gathers yX1_gathers, Cond.code yX1_gathers cX1_gathers 1 (some .boolean), Cond.fieldLink RX1 49 "GatheringCache$Stick" "in" "Z", Cond.fieldLink RX1 52 "GatheringCache$Stick" "charge" "I", Cond.static yX4_operationsToWrite]
def wsX4_ifWritten_r2 : List Cond := [Cond.code yX4_operationsToWrite cX4_operationsToWrite 1 (some .int), Cond.methodLink RX4 207 yX4_readsToWrite, Cond.static yX4_readsToWrite, Cond.code yX4_readsToWrite cX4_readsToWrite 1 (some .int), Cond.methodLink RX4 210 yX4_writesToWrite, Cond.static yX4_writesToWrite, Cond.code yX4_writesToWrite cX4_writesToWrite 1 (some .int), Cond.static yX4_stripeOf, Cond.code yX4_stripeOf cX4_stripeOf 1 (some .int), Cond.methodLink RX1 80 yX2_lineOf, Cond.instanceMethod yX2_lineOf, Cond.selects RX2 yX2_lineOf yX2_lineOf, Cond.initialized RX2, Cond.code yX2_lineOf cX2_lineOf 3 (some .int), Cond.fieldLink RX2 9 "GatheringCache$Stick" "blocks" "[I", Cond.static yX4_isLine, Cond.code yX4_isLine cX4_isLine 1 (some .boolean), Cond.methodLink RX1 86 yX2_freeLine, Cond.instanceMethod yX2_freeLine, Cond.selects RX2 yX2_freeLine yX2_freeLine, Cond.code yX2_freeLine cX2_freeLine 5 (some .int), Cond.fieldLink RX2 24 "GatheringCache$Stick" "dirty" "[Z", Cond.fieldLink RX2 21 "GatheringCache$Stick" "uses" "[I", Cond.methodLink RX1 89 yX2_fullestStripe]
def wsX4_ifWritten_r3 : List Cond := [Cond.instanceMethod yX2_fullestStripe, Cond.selects RX2 yX2_fullestStripe yX2_fullestStripe, Cond.code yX2_fullestStripe cX2_fullestStripe 5 (some .int), Cond.methodLink RX2 52 yX2_dirtyLinesOf, Cond.instanceMethod yX2_dirtyLinesOf, Cond.selects RX2 yX2_dirtyLinesOf yX2_dirtyLinesOf, Cond.code yX2_dirtyLinesOf cX2_dirtyLinesOf 4 (some .int), Cond.methodLink RX2 66 yX2_isDirtyOf, Cond.instanceMethod yX2_isDirtyOf, Cond.selects RX2 yX2_isDirtyOf yX2_isDirtyOf, Cond.code yX2_isDirtyOf cX2_isDirtyOf 3 (some .boolean), Cond.methodLink RX1 155 yX2_dirtyLinesOf]
def wsX4_ifWritten : List Cond := .code yX4_ifWritten cX4_ifWritten 2 (some .int) :: ((wsX4_ifWritten_r1 ++ (wsX4_ifWritten_r2 ++ wsX4_ifWritten_r3)) ++ wsX40 ++ wsX10 ++ wsX20 ++ (vx_atS RX4 150 "java/lang/IndexOutOfBoundsException" ["java/lang/RuntimeException", "java/lang/Exception"]).filter goodWord)
def wsX4_ifDestaged_r1 : List Cond := [Cond.fieldLink RX4 10 "GatheringCache" "now" "LGatheringCache$State;", Cond.methodLink RX4 175 yX1_canDestage, Cond.instanceMethod yX1_canDestage, Cond.selects RX1 yX1_canDestage yX1_canDestage, Cond.initialized RX1, Cond.code yX1_canDestage cX1_canDestage 1 (some .boolean), Cond.fieldLink RX1 31 "GatheringCache$State" "on" "Z", Cond.fieldLink RX1 12 "GatheringCache$State" "stick" "LGatheringCache$Stick;", Cond.fieldLink RX1 49 "GatheringCache$Stick" "in" "Z", Cond.methodLink RX4 178 yX1_operationsIfDestaged, Cond.instanceMethod yX1_operationsIfDestaged, Cond.selects RX1 yX1_operationsIfDestaged yX1_operationsIfDestaged, Cond.code yX1_operationsIfDestaged cX1_operationsIfDestaged 3 (some .int), Cond.methodLink RX1 155 yX2_dirtyLinesOf, Cond.instanceMethod yX2_dirtyLinesOf, Cond.selects RX2 yX2_dirtyLinesOf yX2_dirtyLinesOf, Cond.initialized RX2, Cond.code yX2_dirtyLinesOf cX2_dirtyLinesOf 4 (some .int), Cond.methodLink RX2 66 yX2_isDirtyOf, Cond.instanceMethod yX2_isDirtyOf, Cond.selects RX2 yX2_isDirtyOf yX2_isDirtyOf, Cond.code yX2_isDirtyOf cX2_isDirtyOf 3 (some .boolean), Cond.fieldLink RX2 24 "GatheringCache$Stick" "dirty" "[Z", Cond.fieldLink RX2 9 "GatheringCache$Stick" "blocks" "[I"]
def wsX4_ifDestaged_r2 : List Cond := [Cond.static yX4_stripeOf, Cond.initialized RX4, Cond.code yX4_stripeOf cX4_stripeOf 1 (some .int), Cond.static yX4_operationsToWrite, Cond.code yX4_operationsToWrite cX4_operationsToWrite 1 (some .int), Cond.methodLink RX4 207 yX4_readsToWrite, Cond.static yX4_readsToWrite, Cond.code yX4_readsToWrite cX4_readsToWrite 1 (some .int), Cond.methodLink RX4 210 yX4_writesToWrite, Cond.static yX4_writesToWrite, Cond.code yX4_writesToWrite cX4_writesToWrite 1 (some .int)]
def wsX4_ifDestaged : List Cond := .code yX4_ifDestaged cX4_ifDestaged 1 (some .int) :: ((wsX4_ifDestaged_r1 ++ wsX4_ifDestaged_r2) ++ wsX40 ++ wsX10 ++ wsX20)
def wsX4_ticksToLoss : List Cond := .code yX4_ticksToLoss cX4_ticksToLoss 1 (some .int) :: ([.fieldLink RX4 10 "GatheringCache" "now" "LGatheringCache$State;", .fieldLink RX4 74 "GatheringCache$State" "stick" "LGatheringCache$Stick;", .fieldLink RX4 78 "GatheringCache$Stick" "charge" "I", .methodLink RX4 175 yX1_canDestage, .instanceMethod yX1_canDestage, .selects RX1 yX1_canDestage yX1_canDestage, .initialized RX1, .code yX1_canDestage cX1_canDestage 1 (some .boolean), .fieldLink RX1 31 "GatheringCache$State" "on" "Z", .fieldLink RX1 12 "GatheringCache$State" "stick" "LGatheringCache$Stick;", .fieldLink RX1 49 "GatheringCache$Stick" "in" "Z", .methodLink RX4 159 yX2_dirtyLines, .instanceMethod yX2_dirtyLines, .selects RX2 yX2_dirtyLines yX2_dirtyLines, .initialized RX2, .code yX2_dirtyLines cX2_dirtyLines 3 (some .int), .fieldLink RX2 24 "GatheringCache$Stick" "dirty" "[Z"] ++ wsX40 ++ wsX10 ++ wsX20)
def wsX4_count : List Cond := .code yX4_count cX4_count 2 (some .int) :: ([.classLink RX4 34 "java/lang/IllegalArgumentException", .initialized "java/lang/IllegalArgumentException", .fieldLink RX4 10 "GatheringCache" "now" "LGatheringCache$State;", .fieldLink RX4 183 "GatheringCache$State" "counts" "[I"] ++ wsX40 ++ wsX10 ++ (vx_atS RX4 38 "java/lang/IllegalArgumentException" ["java/lang/RuntimeException", "java/lang/Exception"]).filter goodWord)
def wsX4_blocksPerStripe : List Cond := .code yX4_blocksPerStripe cX4_blocksPerStripe 2 (some .float) :: ([.fieldLink RX4 10 "GatheringCache" "now" "LGatheringCache$State;", .fieldLink RX4 183 "GatheringCache$State" "counts" "[I"] ++ wsX40 ++ wsX10)
def wsX4_savedStates : List Cond := .code yX4_savedStates cX4_savedStates 1 (some .int) :: ([.fieldLink RX4 19 "GatheringCache" "history" "LGatheringCache$History;", .fieldLink RX4 135 "GatheringCache$History" "size" "I"] ++ wsX40 ++ wsX00)
def wsJ9_max_7cf53 : List Cond := .code yJ9_max_7cf53 cJ9_max_7cf53 2 (some .int) :: ([])
def wsJ9_min_7cf53 : List Cond := .code yJ9_min_7cf53 cJ9_min_7cf53 2 (some .int) :: ([])
def wsL_cell : List Cond := .code yL_cell cL_cell 2 (some .int) :: ([.constant RL 7 (1812433253)])
def wsL_up : List Cond := .code yL_up cL_up 2 (some .int) :: ([.constant RL 8 (2147483647)])
def wsL_told_r1 : List Cond := [Cond.constantLong RL 9 (31), Cond.methodLink RL 11 yX4_charge, Cond.instanceMethod yX4_charge, Cond.selects RX4 yX4_charge yX4_charge, Cond.initialized RX4, Cond.code yX4_charge cX4_charge 1 (some .int), Cond.fieldLink RX4 10 "GatheringCache" "now" "LGatheringCache$State;", Cond.fieldLink RX4 74 "GatheringCache$State" "stick" "LGatheringCache$Stick;", Cond.fieldLink RX4 78 "GatheringCache$Stick" "charge" "I", Cond.methodLink RL 17 yX4_isOn, Cond.instanceMethod yX4_isOn, Cond.selects RX4 yX4_isOn yX4_isOn, Cond.code yX4_isOn cX4_isOn 1 (some .boolean), Cond.fieldLink RX4 93 "GatheringCache$State" "on" "Z", Cond.methodLink RL 21 yX4_isIn, Cond.instanceMethod yX4_isIn, Cond.selects RX4 yX4_isIn yX4_isIn, Cond.code yX4_isIn cX4_isIn 1 (some .boolean), Cond.fieldLink RX4 143 "GatheringCache$Stick" "in" "Z", Cond.methodLink RL 24 yX4_missing, Cond.instanceMethod yX4_missing, Cond.selects RX4 yX4_missing yX4_missing, Cond.code yX4_missing cX4_missing 3 (some .int), Cond.methodLink RX4 168 yX1_finds]
def wsL_told_r2 : List Cond := [Cond.instanceMethod yX1_finds, Cond.selects RX1 yX1_finds yX1_finds, Cond.initialized RX1, Cond.code yX1_finds cX1_finds 3 (some .boolean), Cond.fieldLink RX1 22 "GatheringCache$State" "diskStamps" "[I", Cond.fieldLink RX1 25 "GatheringCache$State" "latestStamps" "[I", Cond.fieldLink RX1 12 "GatheringCache$State" "stick" "LGatheringCache$Stick;", Cond.fieldLink RX1 126 "GatheringCache$Stick" "stamps" "[I", Cond.static yX4_isBlock, Cond.code yX4_isBlock cX4_isBlock 1 (some .boolean), Cond.methodLink RX1 107 yX2_lineInReach, Cond.instanceMethod yX2_lineInReach, Cond.selects RX2 yX2_lineInReach yX2_lineInReach, Cond.initialized RX2, Cond.code yX2_lineInReach cX2_lineInReach 2 (some .int), Cond.fieldLink RX2 35 "GatheringCache$Stick" "in" "Z", Cond.methodLink RX2 48 yX2_lineOf, Cond.instanceMethod yX2_lineOf, Cond.selects RX2 yX2_lineOf yX2_lineOf, Cond.code yX2_lineOf cX2_lineOf 3 (some .int), Cond.fieldLink RX2 9 "GatheringCache$Stick" "blocks" "[I", Cond.static yX4_isLine, Cond.code yX4_isLine cX4_isLine 1 (some .boolean), Cond.methodLink RL 27 yX4_count]
def wsL_told_r3 : List Cond := [Cond.instanceMethod yX4_count, Cond.selects RX4 yX4_count yX4_count, Cond.code yX4_count cX4_count 2 (some .int), Cond.classLink RX4 34 "java/lang/IllegalArgumentException", Cond.initialized "java/lang/IllegalArgumentException", Cond.fieldLink RX4 183 "GatheringCache$State" "counts" "[I", Cond.methodLink RL 31 yX4_line, Cond.instanceMethod yX4_line, Cond.selects RX4 yX4_line yX4_line, Cond.code yX4_line cX4_line 4 (some .int), Cond.classLink RX4 146 "java/lang/IndexOutOfBoundsException", Cond.initialized "java/lang/IndexOutOfBoundsException", Cond.methodLink RX4 153 yX2_partOf, Cond.instanceMethod yX2_partOf, Cond.selects RX2 yX2_partOf yX2_partOf, Cond.code yX2_partOf cX2_partOf 3 (some .int), Cond.fieldLink RX2 15 "GatheringCache$Stick" "values" "[I", Cond.fieldLink RX2 18 "GatheringCache$Stick" "stamps" "[I", Cond.fieldLink RX2 21 "GatheringCache$Stick" "uses" "[I", Cond.fieldLink RX2 24 "GatheringCache$Stick" "dirty" "[Z", Cond.methodLink RL 35 yX4_onDisk, Cond.instanceMethod yX4_onDisk, Cond.selects RX4 yX4_onDisk yX4_onDisk, Cond.code yX4_onDisk cX4_onDisk 2 (some .int)]
def wsL_told_r4 : List Cond := [Cond.methodLink RX4 30 yX4_requireBlock, Cond.static yX4_requireBlock, Cond.code yX4_requireBlock cX4_requireBlock 1 none, Cond.methodLink RX4 187 yX4_isBlock, Cond.methodLink RX4 165 yX1_diskValueOf, Cond.instanceMethod yX1_diskValueOf, Cond.selects RX1 yX1_diskValueOf yX1_diskValueOf, Cond.code yX1_diskValueOf cX1_diskValueOf 2 (some .int), Cond.fieldLink RX1 18 "GatheringCache$State" "diskValues" "[I", Cond.methodLink RL 38 yX4_isFound, Cond.instanceMethod yX4_isFound, Cond.selects RX4 yX4_isFound yX4_isFound, Cond.code yX4_isFound cX4_isFound 2 (some .boolean)]
def wsL_told : List Cond := .code yL_told cL_told 4 (some .long) :: ((wsL_told_r1 ++ (wsL_told_r2 ++ (wsL_told_r3 ++ wsL_told_r4))) ++ wsX40 ++ wsX10 ++ wsX20 ++ (vx_atS RX4 38 "java/lang/IllegalArgumentException" ["java/lang/RuntimeException", "java/lang/Exception"]).filter goodWord ++ (vx_atS RX4 150 "java/lang/IndexOutOfBoundsException" ["java/lang/RuntimeException", "java/lang/Exception"]).filter goodWord)
def wsL_lineOf : List Cond := .code yL_lineOf cL_lineOf 4 (some .int) :: ([.methodLink RL 31 yX4_line, .instanceMethod yX4_line, .selects RX4 yX4_line yX4_line, .initialized RX4, .code yX4_line cX4_line 4 (some .int), .classLink RX4 146 "java/lang/IndexOutOfBoundsException", .initialized "java/lang/IndexOutOfBoundsException", .classLink RX4 34 "java/lang/IllegalArgumentException", .initialized "java/lang/IllegalArgumentException", .fieldLink RX4 10 "GatheringCache" "now" "LGatheringCache$State;", .fieldLink RX4 74 "GatheringCache$State" "stick" "LGatheringCache$Stick;", .methodLink RX4 153 yX2_partOf, .instanceMethod yX2_partOf, .selects RX2 yX2_partOf yX2_partOf, .initialized RX2, .code yX2_partOf cX2_partOf 3 (some .int), .fieldLink RX2 9 "GatheringCache$Stick" "blocks" "[I", .fieldLink RX2 15 "GatheringCache$Stick" "values" "[I", .fieldLink RX2 18 "GatheringCache$Stick" "stamps" "[I", .fieldLink RX2 21 "GatheringCache$Stick" "uses" "[I", .fieldLink RX2 24 "GatheringCache$Stick" "dirty" "[Z", .static yX4_isLine, .code yX4_isLine cX4_isLine 1 (some .boolean)] ++ wsX40 ++ wsX10 ++ wsX20 ++ (vx_atS RX4 150 "java/lang/IndexOutOfBoundsException" ["java/lang/RuntimeException", "java/lang/Exception"]).filter goodWord ++ (vx_atS RX4 38 "java/lang/IllegalArgumentException" ["java/lang/RuntimeException", "java/lang/Exception"]).filter goodWord)
def wsL_writes_r1 : List Cond := [Cond.methodLink RL 27 yX4_count, Cond.instanceMethod yX4_count, Cond.selects RX4 yX4_count yX4_count, Cond.initialized RX4, Cond.code yX4_count cX4_count 2 (some .int), Cond.classLink RX4 34 "java/lang/IllegalArgumentException", Cond.initialized "java/lang/IllegalArgumentException", Cond.fieldLink RX4 10 "GatheringCache" "now" "LGatheringCache$State;", Cond.fieldLink RX4 183 "GatheringCache$State" "counts" "[I", Cond.methodLink RL 42 yX4_ifWritten, Cond.instanceMethod yX4_ifWritten, Cond.selects RX4 yX4_ifWritten yX4_ifWritten, Cond.code yX4_ifWritten cX4_ifWritten 2 (some .int), Cond.fieldLink RX4 93 "GatheringCache$State" "on" "Z", Cond.methodLink RX4 30 yX4_requireBlock, Cond.static yX4_requireBlock, Cond.code yX4_requireBlock cX4_requireBlock 1 none, Cond.classLink RX4 146 "java/lang/IndexOutOfBoundsException", Cond.initialized "java/lang/IndexOutOfBoundsException", Cond.methodLink RX4 187 yX4_isBlock, Cond.static yX4_isBlock, Cond.code yX4_isBlock cX4_isBlock 1 (some .boolean), Cond.methodLink RX4 172 yX1_operationsIfWritten, Cond.instanceMethod yX1_operationsIfWritten]
def wsL_writes_r2 : List Cond := [Cond.selects RX1 yX1_operationsIfWritten yX1_operationsIfWritten, Cond.initialized RX1, Cond.code yX1_operationsIfWritten cX1_operationsIfWritten 3 (some .int), Cond.fieldLink RX1 12 "GatheringCache$State" "stick" "LGatheringCache$Stick;", Cond.methodLink RX1 66 yX1_gathers, Cond.instanceMethod yX1_gathers, Cond.selects RX1 yX1_gathers yX1_gathers, Cond.code yX1_gathers cX1_gathers 1 (some .boolean), Cond.fieldLink RX1 49 "GatheringCache$Stick" "in" "Z", Cond.fieldLink RX1 52 "GatheringCache$Stick" "charge" "I", Cond.static yX4_operationsToWrite, Cond.code yX4_operationsToWrite cX4_operationsToWrite 1 (some .int), Cond.methodLink RX4 207 yX4_readsToWrite, Cond.static yX4_readsToWrite, Cond.code yX4_readsToWrite cX4_readsToWrite 1 (some .int), Cond.methodLink RX4 210 yX4_writesToWrite, Cond.static yX4_writesToWrite, Cond.code yX4_writesToWrite cX4_writesToWrite 1 (some .int), Cond.static yX4_stripeOf, Cond.code yX4_stripeOf cX4_stripeOf 1 (some .int), Cond.methodLink RX1 80 yX2_lineOf, Cond.instanceMethod yX2_lineOf, Cond.selects RX2 yX2_lineOf yX2_lineOf, Cond.initialized RX2]
def wsL_writes_r3 : List Cond := [Cond.code yX2_lineOf cX2_lineOf 3 (some .int), Cond.fieldLink RX2 9 "GatheringCache$Stick" "blocks" "[I", Cond.static yX4_isLine, Cond.code yX4_isLine cX4_isLine 1 (some .boolean), Cond.methodLink RX1 86 yX2_freeLine, Cond.instanceMethod yX2_freeLine, Cond.selects RX2 yX2_freeLine yX2_freeLine, Cond.code yX2_freeLine cX2_freeLine 5 (some .int), Cond.fieldLink RX2 24 "GatheringCache$Stick" "dirty" "[Z", Cond.fieldLink RX2 21 "GatheringCache$Stick" "uses" "[I", Cond.methodLink RX1 89 yX2_fullestStripe, Cond.instanceMethod yX2_fullestStripe, Cond.selects RX2 yX2_fullestStripe yX2_fullestStripe, Cond.code yX2_fullestStripe cX2_fullestStripe 5 (some .int), Cond.methodLink RX2 52 yX2_dirtyLinesOf, Cond.instanceMethod yX2_dirtyLinesOf, Cond.selects RX2 yX2_dirtyLinesOf yX2_dirtyLinesOf, Cond.code yX2_dirtyLinesOf cX2_dirtyLinesOf 4 (some .int), Cond.methodLink RX2 66 yX2_isDirtyOf, Cond.instanceMethod yX2_isDirtyOf, Cond.selects RX2 yX2_isDirtyOf yX2_isDirtyOf, Cond.code yX2_isDirtyOf cX2_isDirtyOf 3 (some .boolean), Cond.methodLink RX1 155 yX2_dirtyLinesOf, Cond.methodLink RL 21 yX4_isIn]
def wsL_writes_r4 : List Cond := [Cond.instanceMethod yX4_isIn, Cond.selects RX4 yX4_isIn yX4_isIn, Cond.code yX4_isIn cX4_isIn 1 (some .boolean), Cond.fieldLink RX4 74 "GatheringCache$State" "stick" "LGatheringCache$Stick;", Cond.fieldLink RX4 143 "GatheringCache$Stick" "in" "Z", Cond.methodLink RL 11 yX4_charge, Cond.instanceMethod yX4_charge, Cond.selects RX4 yX4_charge yX4_charge, Cond.code yX4_charge cX4_charge 1 (some .int), Cond.fieldLink RX4 78 "GatheringCache$Stick" "charge" "I", Cond.methodLink RL 45 yL_lineOf, Cond.static yL_lineOf, Cond.initialized RL, Cond.code yL_lineOf cL_lineOf 4 (some .int), Cond.methodLink RL 31 yX4_line, Cond.instanceMethod yX4_line, Cond.selects RX4 yX4_line yX4_line, Cond.code yX4_line cX4_line 4 (some .int), Cond.methodLink RX4 153 yX2_partOf, Cond.instanceMethod yX2_partOf, Cond.selects RX2 yX2_partOf yX2_partOf, Cond.code yX2_partOf cX2_partOf 3 (some .int), Cond.fieldLink RX2 15 "GatheringCache$Stick" "values" "[I", Cond.fieldLink RX2 18 "GatheringCache$Stick" "stamps" "[I"]
def wsL_writes_r5 : List Cond := [Cond.methodLink RL 51 yX4_write, Cond.instanceMethod yX4_write, Cond.selects RX4 yX4_write yX4_write, Cond.code yX4_write cX4_write 3 (some .int), Cond.fieldLink RX4 19 "GatheringCache" "history" "LGatheringCache$History;", Cond.methodLink RX4 41 yX4_requirePower, Cond.instanceMethod yX4_requirePower, Cond.selects RX4 yX4_requirePower yX4_requirePower, Cond.code yX4_requirePower cX4_requirePower 1 none, Cond.classLink RX4 97 "java/lang/IllegalStateException", Cond.initialized "java/lang/IllegalStateException", Cond.methodLink RX4 44 yX0_save, Cond.instanceMethod yX0_save, Cond.selects RX0 yX0_save yX0_save, Cond.initialized RX0, Cond.code yX0_save cX0_save 3 none, Cond.fieldLink RX0 11 "GatheringCache$History" "states" "[LGatheringCache$State;", Cond.fieldLink RX0 18 "GatheringCache$History" "next" "I", Cond.fieldLink RX0 32 "GatheringCache$History" "size" "I", Cond.methodLink RX0 35 Lib.Math.min.name, Cond.static Lib.Math.min.name, Cond.initialized "java/lang/Math", Cond.code Lib.Math.min.name Lib.Math.min.code 2 (some .int), Cond.methodLink RX0 22 yJ9_floorMod_7cf53]
def wsL_writes_r6 : List Cond := [Cond.static yJ9_floorMod_7cf53, Cond.initialized RJ9, Cond.code yJ9_floorMod_7cf53 cJ9_floorMod_7cf53 3 (some .int), Cond.methodLink RX0 28 yX1_copyFrom, Cond.instanceMethod yX1_copyFrom, Cond.selects RX1 yX1_copyFrom yX1_copyFrom, Cond.code yX1_copyFrom cX1_copyFrom 2 none, Cond.fieldLink RX1 18 "GatheringCache$State" "diskValues" "[I", Cond.methodLink RX1 39 arraycopyName, Cond.native arraycopyName, Cond.static arraycopyName, Cond.initialized "java/lang/System", Cond.fieldLink RX1 22 "GatheringCache$State" "diskStamps" "[I", Cond.fieldLink RX1 25 "GatheringCache$State" "latestStamps" "[I", Cond.fieldLink RX1 28 "GatheringCache$State" "counts" "[I", Cond.fieldLink RX1 45 "GatheringCache$State" "lastStamp" "I", Cond.fieldLink RX1 31 "GatheringCache$State" "on" "Z", Cond.methodLink RX1 35 yX2_copyFrom, Cond.instanceMethod yX2_copyFrom, Cond.selects RX2 yX2_copyFrom yX2_copyFrom, Cond.code yX2_copyFrom cX2_copyFrom 3 none, Cond.methodLink RX2 39 arraycopyName, Cond.fieldLink RX2 45 "GatheringCache$Stick" "lastUse" "I", Cond.fieldLink RX2 28 "GatheringCache$Stick" "limit" "I"]
def wsL_writes_r7 : List Cond := [Cond.fieldLink RX2 32 "GatheringCache$Stick" "charge" "I", Cond.fieldLink RX2 35 "GatheringCache$Stick" "in" "Z", Cond.methodLink RX4 48 yX1_writeBlock, Cond.instanceMethod yX1_writeBlock, Cond.selects RX1 yX1_writeBlock yX1_writeBlock, Cond.code yX1_writeBlock cX1_writeBlock 4 (some .int), Cond.methodLink RX1 70 yX1_gather, Cond.instanceMethod yX1_gather, Cond.selects RX1 yX1_gather yX1_gather, Cond.code yX1_gather cX1_gather 5 none, Cond.methodLink RX1 92 yX1_destageStripe, Cond.instanceMethod yX1_destageStripe, Cond.selects RX1 yX1_destageStripe yX1_destageStripe, Cond.code yX1_destageStripe cX1_destageStripe 4 (some .int), Cond.fieldLink RX1 123 "GatheringCache$Stick" "blocks" "[I", Cond.fieldLink RX1 113 "GatheringCache$Stick" "values" "[I", Cond.fieldLink RX1 126 "GatheringCache$Stick" "stamps" "[I", Cond.fieldLink RX1 129 "GatheringCache$Stick" "dirty" "[Z", Cond.methodLink RX1 119 yX2_isDirtyOf, Cond.methodLink RX1 99 yX1_putOnDisk, Cond.instanceMethod yX1_putOnDisk, Cond.selects RX1 yX1_putOnDisk yX1_putOnDisk, Cond.code yX1_putOnDisk cX1_putOnDisk 4 none, Cond.methodLink RX1 103 yX1_countWrittenTogether]
def wsL_writes_r8 : List Cond := [Cond.instanceMethod yX1_countWrittenTogether, Cond.selects RX1 yX1_countWrittenTogether yX1_countWrittenTogether, Cond.code yX1_countWrittenTogether cX1_countWrittenTogether 2 none, Cond.methodLink RX1 95 yX2_fill, Cond.instanceMethod yX2_fill, Cond.selects RX2 yX2_fill yX2_fill, Cond.code yX2_fill cX2_fill 6 none, Cond.methodLink RX2 59 yX2_use, Cond.instanceMethod yX2_use, Cond.selects RX2 yX2_use yX2_use, Cond.code yX2_use cX2_use 2 none, Cond.methodLink RX1 74 yX1_writeThrough, Cond.instanceMethod yX1_writeThrough, Cond.selects RX1 yX1_writeThrough yX1_writeThrough, Cond.code yX1_writeThrough cX1_writeThrough 3 none, Cond.methodLink RX1 107 yX2_lineInReach, Cond.instanceMethod yX2_lineInReach, Cond.selects RX2 yX2_lineInReach yX2_lineInReach, Cond.code yX2_lineInReach cX2_lineInReach 2 (some .int), Cond.methodLink RX2 48 yX2_lineOf, Cond.methodLink RL 38 yX4_isFound, Cond.instanceMethod yX4_isFound, Cond.selects RX4 yX4_isFound yX4_isFound, Cond.code yX4_isFound cX4_isFound 2 (some .boolean)]
def wsL_writes_r9 : List Cond := [Cond.methodLink RX4 168 yX1_finds, Cond.instanceMethod yX1_finds, Cond.selects RX1 yX1_finds yX1_finds, Cond.code yX1_finds cX1_finds 3 (some .boolean), Cond.methodLink RL 35 yX4_onDisk, Cond.instanceMethod yX4_onDisk, Cond.selects RX4 yX4_onDisk yX4_onDisk, Cond.code yX4_onDisk cX4_onDisk 2 (some .int), Cond.methodLink RX4 165 yX1_diskValueOf, Cond.instanceMethod yX1_diskValueOf, Cond.selects RX1 yX1_diskValueOf yX1_diskValueOf, Cond.code yX1_diskValueOf cX1_diskValueOf 2 (some .int)]
def wsL_writes : List Cond := .code yL_writes cL_writes 12 (some .boolean) :: ((wsL_writes_r1 ++ (wsL_writes_r2 ++ (wsL_writes_r3 ++ (wsL_writes_r4 ++ (wsL_writes_r5 ++ (wsL_writes_r6 ++ (wsL_writes_r7 ++ (wsL_writes_r8 ++ wsL_writes_r9)))))))) ++ wsX40 ++ wsX10 ++ wsX20 ++ wsX00 ++ (vx_atS RX4 38 "java/lang/IllegalArgumentException" ["java/lang/RuntimeException", "java/lang/Exception"]).filter goodWord ++ (vx_atS RX4 150 "java/lang/IndexOutOfBoundsException" ["java/lang/RuntimeException", "java/lang/Exception"]).filter goodWord ++ (vx_atS RX4 101 "java/lang/IllegalStateException" ["java/lang/RuntimeException", "java/lang/Exception"]).filter goodWord)
def wsL_acts_r1 : List Cond := [Cond.methodLink RL 55 yL_up, Cond.static yL_up, Cond.initialized RL, Cond.code yL_up cL_up 2 (some .int), Cond.constant RL 8 (2147483647), Cond.methodLink RL 17 yX4_isOn, Cond.instanceMethod yX4_isOn, Cond.selects RX4 yX4_isOn yX4_isOn, Cond.initialized RX4, Cond.code yX4_isOn cX4_isOn 1 (some .boolean), Cond.fieldLink RX4 10 "GatheringCache" "now" "LGatheringCache$State;", Cond.fieldLink RX4 93 "GatheringCache$State" "on" "Z", Cond.methodLink RL 21 yX4_isIn, Cond.instanceMethod yX4_isIn, Cond.selects RX4 yX4_isIn yX4_isIn, Cond.code yX4_isIn cX4_isIn 1 (some .boolean), Cond.fieldLink RX4 74 "GatheringCache$State" "stick" "LGatheringCache$Stick;", Cond.fieldLink RX4 143 "GatheringCache$Stick" "in" "Z", Cond.methodLink RL 27 yX4_count, Cond.instanceMethod yX4_count, Cond.selects RX4 yX4_count yX4_count, Cond.code yX4_count cX4_count 2 (some .int), Cond.classLink RX4 34 "java/lang/IllegalArgumentException", Cond.initialized "java/lang/IllegalArgumentException"]
def wsL_acts_r2 : List Cond := [Cond.fieldLink RX4 183 "GatheringCache$State" "counts" "[I", Cond.methodLink RL 58 yX4_dirty, Cond.instanceMethod yX4_dirty, Cond.selects RX4 yX4_dirty yX4_dirty, Cond.code yX4_dirty cX4_dirty 1 (some .int), Cond.methodLink RX4 159 yX2_dirtyLines, Cond.instanceMethod yX2_dirtyLines, Cond.selects RX2 yX2_dirtyLines yX2_dirtyLines, Cond.initialized RX2, Cond.code yX2_dirtyLines cX2_dirtyLines 3 (some .int), Cond.fieldLink RX2 24 "GatheringCache$Stick" "dirty" "[Z", Cond.methodLink RL 11 yX4_charge, Cond.instanceMethod yX4_charge, Cond.selects RX4 yX4_charge yX4_charge, Cond.code yX4_charge cX4_charge 1 (some .int), Cond.fieldLink RX4 78 "GatheringCache$Stick" "charge" "I", Cond.methodLink RL 61 yX4_power, Cond.instanceMethod yX4_power, Cond.selects RX4 yX4_power yX4_power, Cond.code yX4_power cX4_power 2 (some .int), Cond.fieldLink RX4 19 "GatheringCache" "history" "LGatheringCache$History;", Cond.methodLink RX4 44 yX0_save, Cond.instanceMethod yX0_save, Cond.selects RX0 yX0_save yX0_save]
def wsL_acts_r3 : List Cond := [Cond.initialized RX0, Cond.code yX0_save cX0_save 3 none, Cond.fieldLink RX0 11 "GatheringCache$History" "states" "[LGatheringCache$State;", Cond.fieldLink RX0 18 "GatheringCache$History" "next" "I", Cond.fieldLink RX0 32 "GatheringCache$History" "size" "I", Cond.methodLink RX0 35 Lib.Math.min.name, Cond.static Lib.Math.min.name, Cond.initialized "java/lang/Math", Cond.code Lib.Math.min.name Lib.Math.min.code 2 (some .int), Cond.methodLink RX0 22 yJ9_floorMod_7cf53, Cond.static yJ9_floorMod_7cf53, Cond.initialized RJ9, Cond.code yJ9_floorMod_7cf53 cJ9_floorMod_7cf53 3 (some .int), Cond.methodLink RX0 28 yX1_copyFrom, Cond.instanceMethod yX1_copyFrom, Cond.selects RX1 yX1_copyFrom yX1_copyFrom, Cond.initialized RX1, Cond.code yX1_copyFrom cX1_copyFrom 2 none, Cond.fieldLink RX1 12 "GatheringCache$State" "stick" "LGatheringCache$Stick;", Cond.fieldLink RX1 18 "GatheringCache$State" "diskValues" "[I", Cond.methodLink RX1 39 arraycopyName, Cond.native arraycopyName, Cond.static arraycopyName, Cond.initialized "java/lang/System"]
def wsL_acts_r4 : List Cond := [Cond.fieldLink RX1 22 "GatheringCache$State" "diskStamps" "[I", Cond.fieldLink RX1 25 "GatheringCache$State" "latestStamps" "[I", Cond.fieldLink RX1 28 "GatheringCache$State" "counts" "[I", Cond.fieldLink RX1 45 "GatheringCache$State" "lastStamp" "I", Cond.fieldLink RX1 31 "GatheringCache$State" "on" "Z", Cond.methodLink RX1 35 yX2_copyFrom, Cond.instanceMethod yX2_copyFrom, Cond.selects RX2 yX2_copyFrom yX2_copyFrom, Cond.code yX2_copyFrom cX2_copyFrom 3 none, Cond.fieldLink RX2 9 "GatheringCache$Stick" "blocks" "[I", Cond.methodLink RX2 39 arraycopyName, Cond.fieldLink RX2 15 "GatheringCache$Stick" "values" "[I", Cond.fieldLink RX2 18 "GatheringCache$Stick" "stamps" "[I", Cond.fieldLink RX2 21 "GatheringCache$Stick" "uses" "[I", Cond.fieldLink RX2 45 "GatheringCache$Stick" "lastUse" "I", Cond.fieldLink RX2 28 "GatheringCache$Stick" "limit" "I", Cond.fieldLink RX2 32 "GatheringCache$Stick" "charge" "I", Cond.fieldLink RX2 35 "GatheringCache$Stick" "in" "Z", Cond.methodLink RX4 89 yX1_switchPower, Cond.instanceMethod yX1_switchPower, Cond.selects RX1 yX1_switchPower yX1_switchPower, Cond.code yX1_switchPower cX1_switchPower 3 (some .int), Cond.fieldLink RX1 49 "GatheringCache$Stick" "in" "Z", Cond.fieldLink RX1 52 "GatheringCache$Stick" "charge" "I"]
def wsL_acts_r5 : List Cond := [Cond.methodLink RX1 143 yX1_destageStripes, Cond.instanceMethod yX1_destageStripes, Cond.selects RX1 yX1_destageStripes yX1_destageStripes, Cond.code yX1_destageStripes cX1_destageStripes 3 (some .int), Cond.methodLink RX1 92 yX1_destageStripe, Cond.instanceMethod yX1_destageStripe, Cond.selects RX1 yX1_destageStripe yX1_destageStripe, Cond.code yX1_destageStripe cX1_destageStripe 4 (some .int), Cond.fieldLink RX1 123 "GatheringCache$Stick" "blocks" "[I", Cond.fieldLink RX1 113 "GatheringCache$Stick" "values" "[I", Cond.fieldLink RX1 126 "GatheringCache$Stick" "stamps" "[I", Cond.fieldLink RX1 129 "GatheringCache$Stick" "dirty" "[Z", Cond.methodLink RX1 119 yX2_isDirtyOf, Cond.instanceMethod yX2_isDirtyOf, Cond.selects RX2 yX2_isDirtyOf yX2_isDirtyOf, Cond.code yX2_isDirtyOf cX2_isDirtyOf 3 (some .boolean), Cond.static yX4_stripeOf, Cond.code yX4_stripeOf cX4_stripeOf 1 (some .int), Cond.methodLink RX1 99 yX1_putOnDisk, Cond.instanceMethod yX1_putOnDisk, Cond.selects RX1 yX1_putOnDisk yX1_putOnDisk, Cond.code yX1_putOnDisk cX1_putOnDisk 4 none, Cond.static yX4_isBlock, Cond.code yX4_isBlock cX4_isBlock 1 (some .boolean)]
def wsL_acts_r6 : List Cond := [Cond.methodLink RX1 103 yX1_countWrittenTogether, Cond.instanceMethod yX1_countWrittenTogether, Cond.selects RX1 yX1_countWrittenTogether yX1_countWrittenTogether, Cond.code yX1_countWrittenTogether cX1_countWrittenTogether 2 none, Cond.static yX4_readsToWrite, Cond.code yX4_readsToWrite cX4_readsToWrite 1 (some .int), Cond.static yX4_writesToWrite, Cond.code yX4_writesToWrite cX4_writesToWrite 1 (some .int), Cond.methodLink RL 65 yX4_used, Cond.instanceMethod yX4_used, Cond.selects RX4 yX4_used yX4_used, Cond.code yX4_used cX4_used 1 (some .int), Cond.methodLink RX4 162 yX2_usedLines, Cond.instanceMethod yX2_usedLines, Cond.selects RX2 yX2_usedLines yX2_usedLines, Cond.code yX2_usedLines cX2_usedLines 3 (some .int), Cond.methodLink RL 68 yX4_moveStick, Cond.instanceMethod yX4_moveStick, Cond.selects RX4 yX4_moveStick yX4_moveStick, Cond.code yX4_moveStick cX4_moveStick 2 (some .int), Cond.classLink RX4 97 "java/lang/IllegalStateException", Cond.initialized "java/lang/IllegalStateException", Cond.methodLink RX4 102 yX1_placeStick, Cond.instanceMethod yX1_placeStick]
def wsL_acts_r7 : List Cond := [Cond.selects RX1 yX1_placeStick yX1_placeStick, Cond.code yX1_placeStick cX1_placeStick 3 (some .int), Cond.methodLink RX1 146 yX1_emptyOutdatedLines, Cond.instanceMethod yX1_emptyOutdatedLines, Cond.selects RX1 yX1_emptyOutdatedLines yX1_emptyOutdatedLines, Cond.code yX1_emptyOutdatedLines cX1_emptyOutdatedLines 4 (some .int), Cond.methodLink RX1 149 yX2_empty, Cond.instanceMethod yX2_empty, Cond.selects RX2 yX2_empty yX2_empty, Cond.code yX2_empty cX2_empty 2 none, Cond.static yX4_isLine, Cond.code yX4_isLine cX4_isLine 1 (some .boolean), Cond.methodLink RL 71 yX4_pass, Cond.instanceMethod yX4_pass, Cond.selects RX4 yX4_pass yX4_pass, Cond.code yX4_pass cX4_pass 2 (some .int), Cond.methodLink RX4 71 yX1_letPass, Cond.instanceMethod yX1_letPass, Cond.selects RX1 yX1_letPass yX1_letPass, Cond.code yX1_letPass cX1_letPass 3 none, Cond.methodLink RX1 133 yX1_canDestage, Cond.instanceMethod yX1_canDestage, Cond.selects RX1 yX1_canDestage yX1_canDestage, Cond.code yX1_canDestage cX1_canDestage 1 (some .boolean)]
def wsL_acts_r8 : List Cond := [Cond.methodLink RX1 136 yX2_load, Cond.instanceMethod yX2_load, Cond.selects RX2 yX2_load yX2_load, Cond.code yX2_load cX2_load 1 none, Cond.methodLink RX2 70 Lib.Math.min.name, Cond.methodLink RX1 139 yX2_drain, Cond.instanceMethod yX2_drain, Cond.selects RX2 yX2_drain yX2_drain, Cond.code yX2_drain cX2_drain 3 (some .int), Cond.methodLink RX2 76 Lib.Math.max.name, Cond.static Lib.Math.max.name, Cond.code Lib.Math.max.name Lib.Math.max.code 2 (some .int), Cond.methodLink RX2 79 yX2_dirtyLines, Cond.methodLink RX2 83 yX2_empty, Cond.methodLink RL 74 yX4_setLimit, Cond.instanceMethod yX4_setLimit, Cond.selects RX4 yX4_setLimit yX4_setLimit, Cond.code yX4_setLimit cX4_setLimit 2 (some .int), Cond.methodLink RX4 86 yX2_limitTo, Cond.instanceMethod yX2_limitTo, Cond.selects RX2 yX2_limitTo yX2_limitTo, Cond.code yX2_limitTo cX2_limitTo 2 none, Cond.methodLink RL 77 yX4_ifDestaged, Cond.instanceMethod yX4_ifDestaged]
def wsL_acts_r9 : List Cond := [Cond.selects RX4 yX4_ifDestaged yX4_ifDestaged, Cond.code yX4_ifDestaged cX4_ifDestaged 1 (some .int), Cond.methodLink RX4 175 yX1_canDestage, Cond.methodLink RX4 178 yX1_operationsIfDestaged, Cond.instanceMethod yX1_operationsIfDestaged, Cond.selects RX1 yX1_operationsIfDestaged yX1_operationsIfDestaged, Cond.code yX1_operationsIfDestaged cX1_operationsIfDestaged 3 (some .int), Cond.methodLink RX1 155 yX2_dirtyLinesOf, Cond.instanceMethod yX2_dirtyLinesOf, Cond.selects RX2 yX2_dirtyLinesOf yX2_dirtyLinesOf, Cond.code yX2_dirtyLinesOf cX2_dirtyLinesOf 4 (some .int), Cond.methodLink RX2 66 yX2_isDirtyOf, Cond.static yX4_operationsToWrite, Cond.code yX4_operationsToWrite cX4_operationsToWrite 1 (some .int), Cond.methodLink RX4 207 yX4_readsToWrite, Cond.methodLink RX4 210 yX4_writesToWrite, Cond.methodLink RL 80 yX4_destageAll, Cond.instanceMethod yX4_destageAll, Cond.selects RX4 yX4_destageAll yX4_destageAll, Cond.code yX4_destageAll cX4_destageAll 1 (some .int), Cond.methodLink RX4 59 yX4_requireDestaging, Cond.instanceMethod yX4_requireDestaging, Cond.selects RX4 yX4_requireDestaging yX4_requireDestaging, Cond.code yX4_requireDestaging cX4_requireDestaging 1 none]
def wsL_acts_r10 : List Cond := [Cond.methodLink RX4 65 yX1_destageStripes, Cond.methodLink RL 83 yX4_dirtyOf, Cond.instanceMethod yX4_dirtyOf, Cond.selects RX4 yX4_dirtyOf yX4_dirtyOf, Cond.code yX4_dirtyOf cX4_dirtyOf 2 (some .int), Cond.methodLink RX4 56 yX4_requireStripe, Cond.static yX4_requireStripe, Cond.code yX4_requireStripe cX4_requireStripe 1 none, Cond.classLink RX4 146 "java/lang/IndexOutOfBoundsException", Cond.initialized "java/lang/IndexOutOfBoundsException", Cond.methodLink RX4 156 yX2_dirtyLinesOf, Cond.methodLink RL 86 yX4_destage, Cond.instanceMethod yX4_destage, Cond.selects RX4 yX4_destage yX4_destage, Cond.code yX4_destage cX4_destage 2 (some .int), Cond.methodLink RX4 62 yX1_destageStripe, Cond.methodLink RL 45 yL_lineOf, Cond.static yL_lineOf, Cond.code yL_lineOf cL_lineOf 4 (some .int), Cond.methodLink RL 31 yX4_line, Cond.instanceMethod yX4_line, Cond.selects RX4 yX4_line yX4_line, Cond.code yX4_line cX4_line 4 (some .int), Cond.methodLink RX4 153 yX2_partOf]
def wsL_acts_r11 : List Cond := [Cond.instanceMethod yX2_partOf, Cond.selects RX2 yX2_partOf yX2_partOf, Cond.code yX2_partOf cX2_partOf 3 (some .int), Cond.methodLink RL 35 yX4_onDisk, Cond.instanceMethod yX4_onDisk, Cond.selects RX4 yX4_onDisk yX4_onDisk, Cond.code yX4_onDisk cX4_onDisk 2 (some .int), Cond.methodLink RX4 30 yX4_requireBlock, Cond.static yX4_requireBlock, Cond.code yX4_requireBlock cX4_requireBlock 1 none, Cond.methodLink RX4 187 yX4_isBlock, Cond.methodLink RX4 165 yX1_diskValueOf, Cond.instanceMethod yX1_diskValueOf, Cond.selects RX1 yX1_diskValueOf yX1_diskValueOf, Cond.code yX1_diskValueOf cX1_diskValueOf 2 (some .int), Cond.methodLink RL 89 yX4_read, Cond.instanceMethod yX4_read, Cond.selects RX4 yX4_read yX4_read, Cond.code yX4_read cX4_read 2 (some .int), Cond.methodLink RX4 41 yX4_requirePower, Cond.instanceMethod yX4_requirePower, Cond.selects RX4 yX4_requirePower yX4_requirePower, Cond.code yX4_requirePower cX4_requirePower 1 none, Cond.methodLink RX4 52 yX1_readBlock]
def wsL_acts_r12 : List Cond := [Cond.instanceMethod yX1_readBlock, Cond.selects RX1 yX1_readBlock yX1_readBlock, Cond.code yX1_readBlock cX1_readBlock 3 (some .int), Cond.methodLink RX1 107 yX2_lineInReach, Cond.instanceMethod yX2_lineInReach, Cond.selects RX2 yX2_lineInReach yX2_lineInReach, Cond.code yX2_lineInReach cX2_lineInReach 2 (some .int), Cond.methodLink RX2 48 yX2_lineOf, Cond.instanceMethod yX2_lineOf, Cond.selects RX2 yX2_lineOf yX2_lineOf, Cond.code yX2_lineOf cX2_lineOf 3 (some .int), Cond.methodLink RX1 110 yX2_use, Cond.instanceMethod yX2_use, Cond.selects RX2 yX2_use yX2_use, Cond.code yX2_use cX2_use 2 none, Cond.methodLink RX1 116 yX1_diskValueOf, Cond.methodLink RL 92 yL_writes, Cond.static yL_writes, Cond.code yL_writes cL_writes 12 (some .boolean), Cond.methodLink RL 42 yX4_ifWritten, Cond.instanceMethod yX4_ifWritten, Cond.selects RX4 yX4_ifWritten yX4_ifWritten, Cond.code yX4_ifWritten cX4_ifWritten 2 (some .int), Cond.methodLink RX4 172 yX1_operationsIfWritten]
def wsL_acts_r13 : List Cond := [Cond.instanceMethod yX1_operationsIfWritten, Cond.selects RX1 yX1_operationsIfWritten yX1_operationsIfWritten, Cond.code yX1_operationsIfWritten cX1_operationsIfWritten 3 (some .int), Cond.methodLink RX1 66 yX1_gathers, Cond.instanceMethod yX1_gathers, Cond.selects RX1 yX1_gathers yX1_gathers, Cond.code yX1_gathers cX1_gathers 1 (some .boolean), Cond.methodLink RX1 80 yX2_lineOf, Cond.methodLink RX1 86 yX2_freeLine, Cond.instanceMethod yX2_freeLine, Cond.selects RX2 yX2_freeLine yX2_freeLine, Cond.code yX2_freeLine cX2_freeLine 5 (some .int), Cond.methodLink RX1 89 yX2_fullestStripe, Cond.instanceMethod yX2_fullestStripe, Cond.selects RX2 yX2_fullestStripe yX2_fullestStripe, Cond.code yX2_fullestStripe cX2_fullestStripe 5 (some .int), Cond.methodLink RX2 52 yX2_dirtyLinesOf, Cond.methodLink RL 51 yX4_write, Cond.instanceMethod yX4_write, Cond.selects RX4 yX4_write yX4_write, Cond.code yX4_write cX4_write 3 (some .int), Cond.methodLink RX4 48 yX1_writeBlock, Cond.instanceMethod yX1_writeBlock, Cond.selects RX1 yX1_writeBlock yX1_writeBlock]
def wsL_acts_r14 : List Cond := [Cond.code yX1_writeBlock cX1_writeBlock 4 (some .int), Cond.methodLink RX1 70 yX1_gather, Cond.instanceMethod yX1_gather, Cond.selects RX1 yX1_gather yX1_gather, Cond.code yX1_gather cX1_gather 5 none, Cond.methodLink RX1 95 yX2_fill, Cond.instanceMethod yX2_fill, Cond.selects RX2 yX2_fill yX2_fill, Cond.code yX2_fill cX2_fill 6 none, Cond.methodLink RX2 59 yX2_use, Cond.methodLink RX1 74 yX1_writeThrough, Cond.instanceMethod yX1_writeThrough, Cond.selects RX1 yX1_writeThrough yX1_writeThrough, Cond.code yX1_writeThrough cX1_writeThrough 3 none, Cond.methodLink RL 38 yX4_isFound, Cond.instanceMethod yX4_isFound, Cond.selects RX4 yX4_isFound yX4_isFound, Cond.code yX4_isFound cX4_isFound 2 (some .boolean), Cond.methodLink RX4 168 yX1_finds, Cond.instanceMethod yX1_finds, Cond.selects RX1 yX1_finds yX1_finds, Cond.code yX1_finds cX1_finds 3 (some .boolean)]
def wsL_acts : List Cond := .code yL_acts cL_acts 26 (some .boolean) :: ((wsL_acts_r1 ++ (wsL_acts_r2 ++ (wsL_acts_r3 ++ (wsL_acts_r4 ++ (wsL_acts_r5 ++ (wsL_acts_r6 ++ (wsL_acts_r7 ++ (wsL_acts_r8 ++ (wsL_acts_r9 ++ (wsL_acts_r10 ++ (wsL_acts_r11 ++ (wsL_acts_r12 ++ (wsL_acts_r13 ++ wsL_acts_r14))))))))))))) ++ wsX40 ++ wsX10 ++ wsX20 ++ wsX00 ++ (vx_atS RX4 38 "java/lang/IllegalArgumentException" ["java/lang/RuntimeException", "java/lang/Exception"]).filter goodWord ++ (vx_atS RX4 101 "java/lang/IllegalStateException" ["java/lang/RuntimeException", "java/lang/Exception"]).filter goodWord ++ (vx_atS RX4 150 "java/lang/IndexOutOfBoundsException" ["java/lang/RuntimeException", "java/lang/Exception"]).filter goodWord)
def wsL_holds_r1 : List Cond := [Cond.constantFloat RL 100 (1077936128), Cond.methodLink RL 11 yX4_charge, Cond.instanceMethod yX4_charge, Cond.selects RX4 yX4_charge yX4_charge, Cond.initialized RX4, Cond.code yX4_charge cX4_charge 1 (some .int), Cond.fieldLink RX4 10 "GatheringCache" "now" "LGatheringCache$State;", Cond.fieldLink RX4 74 "GatheringCache$State" "stick" "LGatheringCache$Stick;", Cond.fieldLink RX4 78 "GatheringCache$Stick" "charge" "I", Cond.methodLink RL 27 yX4_count, Cond.instanceMethod yX4_count, Cond.selects RX4 yX4_count yX4_count, Cond.code yX4_count cX4_count 2 (some .int), Cond.classLink RX4 34 "java/lang/IllegalArgumentException", Cond.initialized "java/lang/IllegalArgumentException", Cond.fieldLink RX4 183 "GatheringCache$State" "counts" "[I", Cond.methodLink RL 96 yX4_blocksPerStripe, Cond.instanceMethod yX4_blocksPerStripe, Cond.selects RX4 yX4_blocksPerStripe yX4_blocksPerStripe, Cond.code yX4_blocksPerStripe cX4_blocksPerStripe 2 (some .float), Cond.methodLink RL 31 yX4_line, Cond.instanceMethod yX4_line, Cond.selects RX4 yX4_line yX4_line, Cond.code yX4_line cX4_line 4 (some .int)]
def wsL_holds_r2 : List Cond := [Cond.classLink RX4 146 "java/lang/IndexOutOfBoundsException", Cond.initialized "java/lang/IndexOutOfBoundsException", Cond.methodLink RX4 153 yX2_partOf, Cond.instanceMethod yX2_partOf, Cond.selects RX2 yX2_partOf yX2_partOf, Cond.initialized RX2, Cond.code yX2_partOf cX2_partOf 3 (some .int), Cond.fieldLink RX2 9 "GatheringCache$Stick" "blocks" "[I", Cond.fieldLink RX2 15 "GatheringCache$Stick" "values" "[I", Cond.fieldLink RX2 18 "GatheringCache$Stick" "stamps" "[I", Cond.fieldLink RX2 21 "GatheringCache$Stick" "uses" "[I", Cond.fieldLink RX2 24 "GatheringCache$Stick" "dirty" "[Z", Cond.static yX4_isLine, Cond.code yX4_isLine cX4_isLine 1 (some .boolean), Cond.methodLink RL 45 yL_lineOf, Cond.static yL_lineOf, Cond.initialized RL, Cond.code yL_lineOf cL_lineOf 4 (some .int), Cond.methodLink RL 21 yX4_isIn, Cond.instanceMethod yX4_isIn, Cond.selects RX4 yX4_isIn yX4_isIn, Cond.code yX4_isIn cX4_isIn 1 (some .boolean), Cond.fieldLink RX4 143 "GatheringCache$Stick" "in" "Z", Cond.methodLink RL 35 yX4_onDisk]
def wsL_holds_r3 : List Cond := [Cond.instanceMethod yX4_onDisk, Cond.selects RX4 yX4_onDisk yX4_onDisk, Cond.code yX4_onDisk cX4_onDisk 2 (some .int), Cond.methodLink RX4 30 yX4_requireBlock, Cond.static yX4_requireBlock, Cond.code yX4_requireBlock cX4_requireBlock 1 none, Cond.methodLink RX4 187 yX4_isBlock, Cond.static yX4_isBlock, Cond.code yX4_isBlock cX4_isBlock 1 (some .boolean), Cond.methodLink RX4 165 yX1_diskValueOf, Cond.instanceMethod yX1_diskValueOf, Cond.selects RX1 yX1_diskValueOf yX1_diskValueOf, Cond.initialized RX1, Cond.code yX1_diskValueOf cX1_diskValueOf 2 (some .int), Cond.fieldLink RX1 18 "GatheringCache$State" "diskValues" "[I", Cond.methodLink RL 83 yX4_dirtyOf, Cond.instanceMethod yX4_dirtyOf, Cond.selects RX4 yX4_dirtyOf yX4_dirtyOf, Cond.code yX4_dirtyOf cX4_dirtyOf 2 (some .int), Cond.methodLink RX4 56 yX4_requireStripe, Cond.static yX4_requireStripe, Cond.code yX4_requireStripe cX4_requireStripe 1 none, Cond.methodLink RX4 156 yX2_dirtyLinesOf, Cond.instanceMethod yX2_dirtyLinesOf]
def wsL_holds_r4 : List Cond := [Cond.selects RX2 yX2_dirtyLinesOf yX2_dirtyLinesOf, Cond.code yX2_dirtyLinesOf cX2_dirtyLinesOf 4 (some .int), Cond.methodLink RX2 66 yX2_isDirtyOf, Cond.instanceMethod yX2_isDirtyOf, Cond.selects RX2 yX2_isDirtyOf yX2_isDirtyOf, Cond.code yX2_isDirtyOf cX2_isDirtyOf 3 (some .boolean), Cond.static yX4_stripeOf, Cond.code yX4_stripeOf cX4_stripeOf 1 (some .int), Cond.methodLink RL 38 yX4_isFound, Cond.instanceMethod yX4_isFound, Cond.selects RX4 yX4_isFound yX4_isFound, Cond.code yX4_isFound cX4_isFound 2 (some .boolean), Cond.methodLink RX4 168 yX1_finds, Cond.instanceMethod yX1_finds, Cond.selects RX1 yX1_finds yX1_finds, Cond.code yX1_finds cX1_finds 3 (some .boolean), Cond.fieldLink RX1 22 "GatheringCache$State" "diskStamps" "[I", Cond.fieldLink RX1 25 "GatheringCache$State" "latestStamps" "[I", Cond.fieldLink RX1 12 "GatheringCache$State" "stick" "LGatheringCache$Stick;", Cond.fieldLink RX1 126 "GatheringCache$Stick" "stamps" "[I", Cond.methodLink RX1 107 yX2_lineInReach, Cond.instanceMethod yX2_lineInReach, Cond.selects RX2 yX2_lineInReach yX2_lineInReach, Cond.code yX2_lineInReach cX2_lineInReach 2 (some .int)]
def wsL_holds_r5 : List Cond := [Cond.fieldLink RX2 35 "GatheringCache$Stick" "in" "Z", Cond.methodLink RX2 48 yX2_lineOf, Cond.instanceMethod yX2_lineOf, Cond.selects RX2 yX2_lineOf yX2_lineOf, Cond.code yX2_lineOf cX2_lineOf 3 (some .int), Cond.methodLink RL 65 yX4_used, Cond.instanceMethod yX4_used, Cond.selects RX4 yX4_used yX4_used, Cond.code yX4_used cX4_used 1 (some .int), Cond.methodLink RX4 162 yX2_usedLines, Cond.instanceMethod yX2_usedLines, Cond.selects RX2 yX2_usedLines yX2_usedLines, Cond.code yX2_usedLines cX2_usedLines 3 (some .int), Cond.methodLink RL 58 yX4_dirty, Cond.instanceMethod yX4_dirty, Cond.selects RX4 yX4_dirty yX4_dirty, Cond.code yX4_dirty cX4_dirty 1 (some .int), Cond.methodLink RX4 159 yX2_dirtyLines, Cond.instanceMethod yX2_dirtyLines, Cond.selects RX2 yX2_dirtyLines yX2_dirtyLines, Cond.code yX2_dirtyLines cX2_dirtyLines 3 (some .int), Cond.methodLink RL 24 yX4_missing, Cond.instanceMethod yX4_missing, Cond.selects RX4 yX4_missing yX4_missing]
def wsL_holds_r6 : List Cond := [Cond.code yX4_missing cX4_missing 3 (some .int), Cond.methodLink RL 101 yX4_ticksToLoss, Cond.instanceMethod yX4_ticksToLoss, Cond.selects RX4 yX4_ticksToLoss yX4_ticksToLoss, Cond.code yX4_ticksToLoss cX4_ticksToLoss 1 (some .int), Cond.methodLink RX4 175 yX1_canDestage, Cond.instanceMethod yX1_canDestage, Cond.selects RX1 yX1_canDestage yX1_canDestage, Cond.code yX1_canDestage cX1_canDestage 1 (some .boolean), Cond.fieldLink RX1 31 "GatheringCache$State" "on" "Z", Cond.fieldLink RX1 49 "GatheringCache$Stick" "in" "Z", Cond.methodLink RL 17 yX4_isOn, Cond.instanceMethod yX4_isOn, Cond.selects RX4 yX4_isOn yX4_isOn, Cond.code yX4_isOn cX4_isOn 1 (some .boolean), Cond.fieldLink RX4 93 "GatheringCache$State" "on" "Z"]
def wsL_holds : List Cond := .code yL_holds cL_holds 8 (some .boolean) :: ((wsL_holds_r1 ++ (wsL_holds_r2 ++ (wsL_holds_r3 ++ (wsL_holds_r4 ++ (wsL_holds_r5 ++ wsL_holds_r6))))) ++ wsX40 ++ wsX10 ++ wsX20 ++ (vx_atS RX4 38 "java/lang/IllegalArgumentException" ["java/lang/RuntimeException", "java/lang/Exception"]).filter goodWord ++ (vx_atS RX4 150 "java/lang/IndexOutOfBoundsException" ["java/lang/RuntimeException", "java/lang/Exception"]).filter goodWord)
def wsL_law0_r1 : List Cond := [Cond.classLink RL 12 RX4, Cond.instantiable RX4 3, Cond.initialized RX4, Cond.arrayClass .int, Cond.methodLink RL 104 yX4_init, Cond.instanceMethod yX4_init, Cond.code yX4_init cX4_init 1 none, Cond.methodLink RX4 1 objectInit, Cond.instanceMethod objectInit, Cond.code objectInit ⟨#[0xb1]⟩ 1 none, Cond.classLink RX4 7 RX1, Cond.instantiable RX1 7, Cond.initialized RX1, Cond.fieldLink RX4 10 "GatheringCache" "now" "LGatheringCache$State;", Cond.classLink RX4 16 RX0, Cond.instantiable RX0 3, Cond.initialized RX0, Cond.fieldLink RX4 19 "GatheringCache" "history" "LGatheringCache$History;", Cond.classLink RX4 23 RX3, Cond.instantiable RX3 6, Cond.initialized RX3, Cond.fieldLink RX4 26 "GatheringCache" "text" "LGatheringCache$Text;", Cond.instanceMethod yX1_init, Cond.code yX1_init cX1_init 1 none]
def wsL_law0_r2 : List Cond := [Cond.methodLink RX1 3 objectInit, Cond.classLink RX1 9 RX2, Cond.instantiable RX2 9, Cond.initialized RX2, Cond.fieldLink RX1 12 "GatheringCache$State" "stick" "LGatheringCache$Stick;", Cond.fieldLink RX1 18 "GatheringCache$State" "diskValues" "[I", Cond.fieldLink RX1 22 "GatheringCache$State" "diskStamps" "[I", Cond.fieldLink RX1 25 "GatheringCache$State" "latestStamps" "[I", Cond.fieldLink RX1 28 "GatheringCache$State" "counts" "[I", Cond.fieldLink RX1 31 "GatheringCache$State" "on" "Z", Cond.methodLink RX1 11 yX2_init, Cond.instanceMethod yX2_init, Cond.code yX2_init cX2_init 2 none, Cond.methodLink RX2 3 objectInit, Cond.fieldLink RX2 9 "GatheringCache$Stick" "blocks" "[I", Cond.fieldLink RX2 15 "GatheringCache$Stick" "values" "[I", Cond.fieldLink RX2 18 "GatheringCache$Stick" "stamps" "[I", Cond.fieldLink RX2 21 "GatheringCache$Stick" "uses" "[I", Cond.arrayClass .boolean, Cond.fieldLink RX2 24 "GatheringCache$Stick" "dirty" "[Z", Cond.fieldLink RX2 28 "GatheringCache$Stick" "limit" "I", Cond.fieldLink RX2 32 "GatheringCache$Stick" "charge" "I", Cond.fieldLink RX2 35 "GatheringCache$Stick" "in" "Z", Cond.methodLink RX4 18 yX0_init]
def wsL_law0_r3 : List Cond := [Cond.instanceMethod yX0_init, Cond.code yX0_init cX0_init 2 none, Cond.methodLink RX0 3 objectInit, Cond.classLink RX0 9 RX1, Cond.fieldLink RX0 11 "GatheringCache$History" "states" "[LGatheringCache$State;", Cond.instanceMethod yX3_init, Cond.code yX3_init cX3_init 1 none, Cond.methodLink RX3 3 objectInit, Cond.arrayClass .char, Cond.fieldLink RX3 9 "GatheringCache$Text" "characters" "[C", Cond.methodLink RL 105 yL_holds, Cond.static yL_holds, Cond.initialized RL, Cond.code yL_holds cL_holds 8 (some .boolean), Cond.constantFloat RL 100 (1077936128), Cond.methodLink RL 11 yX4_charge, Cond.instanceMethod yX4_charge, Cond.selects RX4 yX4_charge yX4_charge, Cond.code yX4_charge cX4_charge 1 (some .int), Cond.fieldLink RX4 74 "GatheringCache$State" "stick" "LGatheringCache$Stick;", Cond.fieldLink RX4 78 "GatheringCache$Stick" "charge" "I", Cond.methodLink RL 27 yX4_count, Cond.instanceMethod yX4_count, Cond.selects RX4 yX4_count yX4_count]
def wsL_law0_r4 : List Cond := [Cond.code yX4_count cX4_count 2 (some .int), Cond.classLink RX4 34 "java/lang/IllegalArgumentException", Cond.initialized "java/lang/IllegalArgumentException", Cond.fieldLink RX4 183 "GatheringCache$State" "counts" "[I", Cond.methodLink RL 96 yX4_blocksPerStripe, Cond.instanceMethod yX4_blocksPerStripe, Cond.selects RX4 yX4_blocksPerStripe yX4_blocksPerStripe, Cond.code yX4_blocksPerStripe cX4_blocksPerStripe 2 (some .float), Cond.methodLink RL 31 yX4_line, Cond.instanceMethod yX4_line, Cond.selects RX4 yX4_line yX4_line, Cond.code yX4_line cX4_line 4 (some .int), Cond.classLink RX4 146 "java/lang/IndexOutOfBoundsException", Cond.initialized "java/lang/IndexOutOfBoundsException", Cond.methodLink RX4 153 yX2_partOf, Cond.instanceMethod yX2_partOf, Cond.selects RX2 yX2_partOf yX2_partOf, Cond.code yX2_partOf cX2_partOf 3 (some .int), Cond.static yX4_isLine, Cond.code yX4_isLine cX4_isLine 1 (some .boolean), Cond.methodLink RL 45 yL_lineOf, Cond.static yL_lineOf, Cond.code yL_lineOf cL_lineOf 4 (some .int), Cond.methodLink RL 21 yX4_isIn]
def wsL_law0_r5 : List Cond := [Cond.instanceMethod yX4_isIn, Cond.selects RX4 yX4_isIn yX4_isIn, Cond.code yX4_isIn cX4_isIn 1 (some .boolean), Cond.fieldLink RX4 143 "GatheringCache$Stick" "in" "Z", Cond.methodLink RL 35 yX4_onDisk, Cond.instanceMethod yX4_onDisk, Cond.selects RX4 yX4_onDisk yX4_onDisk, Cond.code yX4_onDisk cX4_onDisk 2 (some .int), Cond.methodLink RX4 30 yX4_requireBlock, Cond.static yX4_requireBlock, Cond.code yX4_requireBlock cX4_requireBlock 1 none, Cond.methodLink RX4 187 yX4_isBlock, Cond.static yX4_isBlock, Cond.code yX4_isBlock cX4_isBlock 1 (some .boolean), Cond.methodLink RX4 165 yX1_diskValueOf, Cond.instanceMethod yX1_diskValueOf, Cond.selects RX1 yX1_diskValueOf yX1_diskValueOf, Cond.code yX1_diskValueOf cX1_diskValueOf 2 (some .int), Cond.methodLink RL 83 yX4_dirtyOf, Cond.instanceMethod yX4_dirtyOf, Cond.selects RX4 yX4_dirtyOf yX4_dirtyOf, Cond.code yX4_dirtyOf cX4_dirtyOf 2 (some .int), Cond.methodLink RX4 56 yX4_requireStripe, Cond.static yX4_requireStripe]
def wsL_law0_r6 : List Cond := [Cond.code yX4_requireStripe cX4_requireStripe 1 none, Cond.methodLink RX4 156 yX2_dirtyLinesOf, Cond.instanceMethod yX2_dirtyLinesOf, Cond.selects RX2 yX2_dirtyLinesOf yX2_dirtyLinesOf, Cond.code yX2_dirtyLinesOf cX2_dirtyLinesOf 4 (some .int), Cond.methodLink RX2 66 yX2_isDirtyOf, Cond.instanceMethod yX2_isDirtyOf, Cond.selects RX2 yX2_isDirtyOf yX2_isDirtyOf, Cond.code yX2_isDirtyOf cX2_isDirtyOf 3 (some .boolean), Cond.static yX4_stripeOf, Cond.code yX4_stripeOf cX4_stripeOf 1 (some .int), Cond.methodLink RL 38 yX4_isFound, Cond.instanceMethod yX4_isFound, Cond.selects RX4 yX4_isFound yX4_isFound, Cond.code yX4_isFound cX4_isFound 2 (some .boolean), Cond.methodLink RX4 168 yX1_finds, Cond.instanceMethod yX1_finds, Cond.selects RX1 yX1_finds yX1_finds, Cond.code yX1_finds cX1_finds 3 (some .boolean), Cond.fieldLink RX1 126 "GatheringCache$Stick" "stamps" "[I", Cond.methodLink RX1 107 yX2_lineInReach, Cond.instanceMethod yX2_lineInReach, Cond.selects RX2 yX2_lineInReach yX2_lineInReach, Cond.code yX2_lineInReach cX2_lineInReach 2 (some .int)]
def wsL_law0_r7 : List Cond := [Cond.methodLink RX2 48 yX2_lineOf, Cond.instanceMethod yX2_lineOf, Cond.selects RX2 yX2_lineOf yX2_lineOf, Cond.code yX2_lineOf cX2_lineOf 3 (some .int), Cond.methodLink RL 65 yX4_used, Cond.instanceMethod yX4_used, Cond.selects RX4 yX4_used yX4_used, Cond.code yX4_used cX4_used 1 (some .int), Cond.methodLink RX4 162 yX2_usedLines, Cond.instanceMethod yX2_usedLines, Cond.selects RX2 yX2_usedLines yX2_usedLines, Cond.code yX2_usedLines cX2_usedLines 3 (some .int), Cond.methodLink RL 58 yX4_dirty, Cond.instanceMethod yX4_dirty, Cond.selects RX4 yX4_dirty yX4_dirty, Cond.code yX4_dirty cX4_dirty 1 (some .int), Cond.methodLink RX4 159 yX2_dirtyLines, Cond.instanceMethod yX2_dirtyLines, Cond.selects RX2 yX2_dirtyLines yX2_dirtyLines, Cond.code yX2_dirtyLines cX2_dirtyLines 3 (some .int), Cond.methodLink RL 24 yX4_missing, Cond.instanceMethod yX4_missing, Cond.selects RX4 yX4_missing yX4_missing, Cond.code yX4_missing cX4_missing 3 (some .int)]
def wsL_law0_r8 : List Cond := [Cond.methodLink RL 101 yX4_ticksToLoss, Cond.instanceMethod yX4_ticksToLoss, Cond.selects RX4 yX4_ticksToLoss yX4_ticksToLoss, Cond.code yX4_ticksToLoss cX4_ticksToLoss 1 (some .int), Cond.methodLink RX4 175 yX1_canDestage, Cond.instanceMethod yX1_canDestage, Cond.selects RX1 yX1_canDestage yX1_canDestage, Cond.code yX1_canDestage cX1_canDestage 1 (some .boolean), Cond.fieldLink RX1 49 "GatheringCache$Stick" "in" "Z", Cond.methodLink RL 17 yX4_isOn, Cond.instanceMethod yX4_isOn, Cond.selects RX4 yX4_isOn yX4_isOn, Cond.code yX4_isOn cX4_isOn 1 (some .boolean), Cond.fieldLink RX4 93 "GatheringCache$State" "on" "Z", Cond.methodLink RL 109 yL_cell, Cond.static yL_cell, Cond.code yL_cell cL_cell 2 (some .int), Cond.constant RL 7 (1812433253), Cond.methodLink RL 55 yL_up, Cond.static yL_up, Cond.code yL_up cL_up 2 (some .int), Cond.constant RL 8 (2147483647), Cond.methodLink RL 113 yL_told, Cond.static yL_told]
def wsL_law0_r9 : List Cond := [Cond.code yL_told cL_told 4 (some .long), Cond.constantLong RL 9 (31), Cond.methodLink RL 117 yX4_savedStates, Cond.instanceMethod yX4_savedStates, Cond.selects RX4 yX4_savedStates yX4_savedStates, Cond.code yX4_savedStates cX4_savedStates 1 (some .int), Cond.fieldLink RX4 135 "GatheringCache$History" "size" "I", Cond.methodLink RL 120 yL_acts, Cond.static yL_acts, Cond.code yL_acts cL_acts 26 (some .boolean), Cond.methodLink RL 61 yX4_power, Cond.instanceMethod yX4_power, Cond.selects RX4 yX4_power yX4_power, Cond.code yX4_power cX4_power 2 (some .int), Cond.methodLink RX4 44 yX0_save, Cond.instanceMethod yX0_save, Cond.selects RX0 yX0_save yX0_save, Cond.code yX0_save cX0_save 3 none, Cond.fieldLink RX0 18 "GatheringCache$History" "next" "I", Cond.fieldLink RX0 32 "GatheringCache$History" "size" "I", Cond.methodLink RX0 35 Lib.Math.min.name, Cond.static Lib.Math.min.name, Cond.initialized "java/lang/Math", Cond.code Lib.Math.min.name Lib.Math.min.code 2 (some .int)]
def wsL_law0_r10 : List Cond := [Cond.methodLink RX0 22 yJ9_floorMod_7cf53, Cond.static yJ9_floorMod_7cf53, Cond.initialized RJ9, Cond.code yJ9_floorMod_7cf53 cJ9_floorMod_7cf53 3 (some .int), Cond.methodLink RX0 28 yX1_copyFrom, Cond.instanceMethod yX1_copyFrom, Cond.selects RX1 yX1_copyFrom yX1_copyFrom, Cond.code yX1_copyFrom cX1_copyFrom 2 none, Cond.methodLink RX1 39 arraycopyName, Cond.native arraycopyName, Cond.static arraycopyName, Cond.initialized "java/lang/System", Cond.fieldLink RX1 45 "GatheringCache$State" "lastStamp" "I", Cond.methodLink RX1 35 yX2_copyFrom, Cond.instanceMethod yX2_copyFrom, Cond.selects RX2 yX2_copyFrom yX2_copyFrom, Cond.code yX2_copyFrom cX2_copyFrom 3 none, Cond.methodLink RX2 39 arraycopyName, Cond.fieldLink RX2 45 "GatheringCache$Stick" "lastUse" "I", Cond.methodLink RX4 89 yX1_switchPower, Cond.instanceMethod yX1_switchPower, Cond.selects RX1 yX1_switchPower yX1_switchPower, Cond.code yX1_switchPower cX1_switchPower 3 (some .int), Cond.fieldLink RX1 52 "GatheringCache$Stick" "charge" "I"]
def wsL_law0_r11 : List Cond := [Cond.methodLink RX1 143 yX1_destageStripes, Cond.instanceMethod yX1_destageStripes, Cond.selects RX1 yX1_destageStripes yX1_destageStripes, Cond.code yX1_destageStripes cX1_destageStripes 3 (some .int), Cond.methodLink RX1 92 yX1_destageStripe, Cond.instanceMethod yX1_destageStripe, Cond.selects RX1 yX1_destageStripe yX1_destageStripe, Cond.code yX1_destageStripe cX1_destageStripe 4 (some .int), Cond.fieldLink RX1 123 "GatheringCache$Stick" "blocks" "[I", Cond.fieldLink RX1 113 "GatheringCache$Stick" "values" "[I", Cond.fieldLink RX1 129 "GatheringCache$Stick" "dirty" "[Z", Cond.methodLink RX1 119 yX2_isDirtyOf, Cond.methodLink RX1 99 yX1_putOnDisk, Cond.instanceMethod yX1_putOnDisk, Cond.selects RX1 yX1_putOnDisk yX1_putOnDisk, Cond.code yX1_putOnDisk cX1_putOnDisk 4 none, Cond.methodLink RX1 103 yX1_countWrittenTogether, Cond.instanceMethod yX1_countWrittenTogether, Cond.selects RX1 yX1_countWrittenTogether yX1_countWrittenTogether, Cond.code yX1_countWrittenTogether cX1_countWrittenTogether 2 none, Cond.static yX4_readsToWrite, Cond.code yX4_readsToWrite cX4_readsToWrite 1 (some .int), Cond.static yX4_writesToWrite, Cond.code yX4_writesToWrite cX4_writesToWrite 1 (some .int)]
def wsL_law0_r12 : List Cond := [Cond.methodLink RL 68 yX4_moveStick, Cond.instanceMethod yX4_moveStick, Cond.selects RX4 yX4_moveStick yX4_moveStick, Cond.code yX4_moveStick cX4_moveStick 2 (some .int), Cond.classLink RX4 97 "java/lang/IllegalStateException", Cond.initialized "java/lang/IllegalStateException", Cond.methodLink RX4 102 yX1_placeStick, Cond.instanceMethod yX1_placeStick, Cond.selects RX1 yX1_placeStick yX1_placeStick, Cond.code yX1_placeStick cX1_placeStick 3 (some .int), Cond.methodLink RX1 146 yX1_emptyOutdatedLines, Cond.instanceMethod yX1_emptyOutdatedLines, Cond.selects RX1 yX1_emptyOutdatedLines yX1_emptyOutdatedLines, Cond.code yX1_emptyOutdatedLines cX1_emptyOutdatedLines 4 (some .int), Cond.methodLink RX1 149 yX2_empty, Cond.instanceMethod yX2_empty, Cond.selects RX2 yX2_empty yX2_empty, Cond.code yX2_empty cX2_empty 2 none, Cond.methodLink RL 71 yX4_pass, Cond.instanceMethod yX4_pass, Cond.selects RX4 yX4_pass yX4_pass, Cond.code yX4_pass cX4_pass 2 (some .int), Cond.methodLink RX4 71 yX1_letPass, Cond.instanceMethod yX1_letPass]
def wsL_law0_r13 : List Cond := [Cond.selects RX1 yX1_letPass yX1_letPass, Cond.code yX1_letPass cX1_letPass 3 none, Cond.methodLink RX1 133 yX1_canDestage, Cond.methodLink RX1 136 yX2_load, Cond.instanceMethod yX2_load, Cond.selects RX2 yX2_load yX2_load, Cond.code yX2_load cX2_load 1 none, Cond.methodLink RX2 70 Lib.Math.min.name, Cond.methodLink RX1 139 yX2_drain, Cond.instanceMethod yX2_drain, Cond.selects RX2 yX2_drain yX2_drain, Cond.code yX2_drain cX2_drain 3 (some .int), Cond.methodLink RX2 76 Lib.Math.max.name, Cond.static Lib.Math.max.name, Cond.code Lib.Math.max.name Lib.Math.max.code 2 (some .int), Cond.methodLink RX2 79 yX2_dirtyLines, Cond.methodLink RX2 83 yX2_empty, Cond.methodLink RL 74 yX4_setLimit, Cond.instanceMethod yX4_setLimit, Cond.selects RX4 yX4_setLimit yX4_setLimit, Cond.code yX4_setLimit cX4_setLimit 2 (some .int), Cond.methodLink RX4 86 yX2_limitTo, Cond.instanceMethod yX2_limitTo, Cond.selects RX2 yX2_limitTo yX2_limitTo]
def wsL_law0_r14 : List Cond := [Cond.code yX2_limitTo cX2_limitTo 2 none, Cond.methodLink RL 77 yX4_ifDestaged, Cond.instanceMethod yX4_ifDestaged, Cond.selects RX4 yX4_ifDestaged yX4_ifDestaged, Cond.code yX4_ifDestaged cX4_ifDestaged 1 (some .int), Cond.methodLink RX4 178 yX1_operationsIfDestaged, Cond.instanceMethod yX1_operationsIfDestaged, Cond.selects RX1 yX1_operationsIfDestaged yX1_operationsIfDestaged, Cond.code yX1_operationsIfDestaged cX1_operationsIfDestaged 3 (some .int), Cond.methodLink RX1 155 yX2_dirtyLinesOf, Cond.static yX4_operationsToWrite, Cond.code yX4_operationsToWrite cX4_operationsToWrite 1 (some .int), Cond.methodLink RX4 207 yX4_readsToWrite, Cond.methodLink RX4 210 yX4_writesToWrite, Cond.methodLink RL 80 yX4_destageAll, Cond.instanceMethod yX4_destageAll, Cond.selects RX4 yX4_destageAll yX4_destageAll, Cond.code yX4_destageAll cX4_destageAll 1 (some .int), Cond.methodLink RX4 59 yX4_requireDestaging, Cond.instanceMethod yX4_requireDestaging, Cond.selects RX4 yX4_requireDestaging yX4_requireDestaging, Cond.code yX4_requireDestaging cX4_requireDestaging 1 none, Cond.methodLink RX4 65 yX1_destageStripes, Cond.methodLink RL 86 yX4_destage]
def wsL_law0_r15 : List Cond := [Cond.instanceMethod yX4_destage, Cond.selects RX4 yX4_destage yX4_destage, Cond.code yX4_destage cX4_destage 2 (some .int), Cond.methodLink RX4 62 yX1_destageStripe, Cond.methodLink RL 89 yX4_read, Cond.instanceMethod yX4_read, Cond.selects RX4 yX4_read yX4_read, Cond.code yX4_read cX4_read 2 (some .int), Cond.methodLink RX4 41 yX4_requirePower, Cond.instanceMethod yX4_requirePower, Cond.selects RX4 yX4_requirePower yX4_requirePower, Cond.code yX4_requirePower cX4_requirePower 1 none, Cond.methodLink RX4 52 yX1_readBlock, Cond.instanceMethod yX1_readBlock, Cond.selects RX1 yX1_readBlock yX1_readBlock, Cond.code yX1_readBlock cX1_readBlock 3 (some .int), Cond.methodLink RX1 110 yX2_use, Cond.instanceMethod yX2_use, Cond.selects RX2 yX2_use yX2_use, Cond.code yX2_use cX2_use 2 none, Cond.methodLink RX1 116 yX1_diskValueOf, Cond.methodLink RL 92 yL_writes, Cond.static yL_writes, Cond.code yL_writes cL_writes 12 (some .boolean)]
def wsL_law0_r16 : List Cond := [Cond.methodLink RL 42 yX4_ifWritten, Cond.instanceMethod yX4_ifWritten, Cond.selects RX4 yX4_ifWritten yX4_ifWritten, Cond.code yX4_ifWritten cX4_ifWritten 2 (some .int), Cond.methodLink RX4 172 yX1_operationsIfWritten, Cond.instanceMethod yX1_operationsIfWritten, Cond.selects RX1 yX1_operationsIfWritten yX1_operationsIfWritten, Cond.code yX1_operationsIfWritten cX1_operationsIfWritten 3 (some .int), Cond.methodLink RX1 66 yX1_gathers, Cond.instanceMethod yX1_gathers, Cond.selects RX1 yX1_gathers yX1_gathers, Cond.code yX1_gathers cX1_gathers 1 (some .boolean), Cond.methodLink RX1 80 yX2_lineOf, Cond.methodLink RX1 86 yX2_freeLine, Cond.instanceMethod yX2_freeLine, Cond.selects RX2 yX2_freeLine yX2_freeLine, Cond.code yX2_freeLine cX2_freeLine 5 (some .int), Cond.methodLink RX1 89 yX2_fullestStripe, Cond.instanceMethod yX2_fullestStripe, Cond.selects RX2 yX2_fullestStripe yX2_fullestStripe, Cond.code yX2_fullestStripe cX2_fullestStripe 5 (some .int), Cond.methodLink RX2 52 yX2_dirtyLinesOf, Cond.methodLink RL 51 yX4_write, Cond.instanceMethod yX4_write]
def wsL_law0_r17 : List Cond := [Cond.selects RX4 yX4_write yX4_write, Cond.code yX4_write cX4_write 3 (some .int), Cond.methodLink RX4 48 yX1_writeBlock, Cond.instanceMethod yX1_writeBlock, Cond.selects RX1 yX1_writeBlock yX1_writeBlock, Cond.code yX1_writeBlock cX1_writeBlock 4 (some .int), Cond.methodLink RX1 70 yX1_gather, Cond.instanceMethod yX1_gather, Cond.selects RX1 yX1_gather yX1_gather, Cond.code yX1_gather cX1_gather 5 none, Cond.methodLink RX1 95 yX2_fill, Cond.instanceMethod yX2_fill, Cond.selects RX2 yX2_fill yX2_fill, Cond.code yX2_fill cX2_fill 6 none, Cond.methodLink RX2 59 yX2_use, Cond.methodLink RX1 74 yX1_writeThrough, Cond.instanceMethod yX1_writeThrough, Cond.selects RX1 yX1_writeThrough yX1_writeThrough, Cond.code yX1_writeThrough cX1_writeThrough 3 none, Cond.methodLink RL 123 yX4_undo, Cond.instanceMethod yX4_undo, Cond.selects RX4 yX4_undo yX4_undo, Cond.code yX4_undo cX4_undo 1 (some .int), Cond.methodLink RX4 140 yX0_restore]
def wsL_law0_r18 : List Cond := [Cond.instanceMethod yX0_restore, Cond.selects RX0 yX0_restore yX0_restore, Cond.code yX0_restore cX0_restore 3 none, Cond.methodLink RX0 38 Lib.Math.max.name]
def wsL_law0 : List Cond := (wsL_law0_r1 ++ (wsL_law0_r2 ++ (wsL_law0_r3 ++ (wsL_law0_r4 ++ (wsL_law0_r5 ++ (wsL_law0_r6 ++ (wsL_law0_r7 ++ (wsL_law0_r8 ++ (wsL_law0_r9 ++ (wsL_law0_r10 ++ (wsL_law0_r11 ++ (wsL_law0_r12 ++ (wsL_law0_r13 ++ (wsL_law0_r14 ++ (wsL_law0_r15 ++ (wsL_law0_r16 ++ (wsL_law0_r17 ++ wsL_law0_r18))))))))))))))))) ++ wsX40 ++ wsX10 ++ wsX00 ++ wsX30 ++ wsX20 ++ ([] : List Cond)
def wsL_law : List Cond := wsL_law0 ++ (vx_atS RX4 38 "java/lang/IllegalArgumentException" ["java/lang/RuntimeException", "java/lang/Exception"]).filter goodWord ++ (vx_atS RX4 150 "java/lang/IndexOutOfBoundsException" ["java/lang/RuntimeException", "java/lang/Exception"]).filter goodWord ++ (vx_atS RX4 101 "java/lang/IllegalStateException" ["java/lang/RuntimeException", "java/lang/Exception"]).filter goodWord
set_option maxRecDepth 20000 in
theorem in_wsL_law0_r1 : ∀ w ∈ wsL_law0_r1, w ∈ lw_tbl := fun w h => (goodIn_p wsL_law0_r1 [21, 24, 29] (by decide +kernel) (by decide +kernel) w h).1
set_option maxRecDepth 20000 in
theorem in_wsL_law0_r2 : ∀ w ∈ wsL_law0_r2, w ∈ lw_tbl := fun w h => (goodIn_p wsL_law0_r2 [35] (by decide +kernel) (by decide +kernel) w h).1
set_option maxRecDepth 20000 in
theorem in_wsL_law0_r3 : ∀ w ∈ wsL_law0_r3, w ∈ lw_tbl := fun w h => (goodIn_p wsL_law0_r3 [104, 124, 586, 284] (by decide +kernel) (by decide +kernel) w h).1
set_option maxRecDepth 20000 in
theorem in_wsL_law0_r4 : ∀ w ∈ wsL_law0_r4, w ∈ lw_tbl := fun w h => (goodIn_p wsL_law0_r4 [248, 590, 318, 339, 314, 517] (by decide +kernel) (by decide +kernel) w h).1
set_option maxRecDepth 20000 in
theorem in_wsL_law0_r5 : ∀ w ∈ wsL_law0_r5, w ∈ lw_tbl := fun w h => (goodIn_p wsL_law0_r5 [292, 344, 347, 303, 353, 504] (by decide +kernel) (by decide +kernel) w h).1
set_option maxRecDepth 20000 in
theorem in_wsL_law0_r6 : ∀ w ∈ wsL_law0_r6, w ∈ lw_tbl := fun w h => (goodIn_p wsL_law0_r6 [507, 484, 395, 398, 357, 300, 307] (by decide +kernel) (by decide +kernel) w h).1
set_option maxRecDepth 20000 in
theorem in_wsL_law0_r7 : ∀ w ∈ wsL_law0_r7, w ∈ lw_tbl := fun w h => (goodIn_p wsL_law0_r7 [311, 416, 420, 364, 368, 296] (by decide +kernel) (by decide +kernel) w h).1
set_option maxRecDepth 20000 in
theorem in_wsL_law0_r8 : ∀ w ∈ wsL_law0_r8, w ∈ lw_tbl := fun w h => (goodIn_p wsL_law0_r8 [595, 450, 288, 271, 275] (by decide +kernel) (by decide +kernel) w h).1
set_option maxRecDepth 20000 in
theorem in_wsL_law0_r9 : ∀ w ∈ wsL_law0_r9, w ∈ lw_tbl := fun w h => (goodIn_p wsL_law0_r9 [279, 268, 360, 372, 376, 379] (by decide +kernel) (by decide +kernel) w h).1
set_option maxRecDepth 20000 in
theorem in_wsL_law0_r10 : ∀ w ∈ wsL_law0_r10, w ∈ lw_tbl := fun w h => (goodIn_p wsL_law0_r10 [232, 236, 240, 383] (by decide +kernel) (by decide +kernel) w h).1
set_option maxRecDepth 20000 in
theorem in_wsL_law0_r11 : ∀ w ∈ wsL_law0_r11, w ∈ lw_tbl := fun w h => (goodIn_p wsL_law0_r11 [387, 391, 402, 406, 409, 412] (by decide +kernel) (by decide +kernel) w h).1
set_option maxRecDepth 20000 in
theorem in_wsL_law0_r12 : ∀ w ∈ wsL_law0_r12, w ∈ lw_tbl := fun w h => (goodIn_p wsL_law0_r12 [424, 429, 433, 437, 441] (by decide +kernel) (by decide +kernel) w h).1
set_option maxRecDepth 20000 in
theorem in_wsL_law0_r13 : ∀ w ∈ wsL_law0_r13, w ∈ lw_tbl := fun w h => (goodIn_p wsL_law0_r13 [446, 454, 459, 229, 466] (by decide +kernel) (by decide +kernel) w h).1
set_option maxRecDepth 20000 in
theorem in_wsL_law0_r14 : ∀ w ∈ wsL_law0_r14, w ∈ lw_tbl := fun w h => (goodIn_p wsL_law0_r14 [471, 475, 480, 488, 494, 498] (by decide +kernel) (by decide +kernel) w h).1
set_option maxRecDepth 20000 in
theorem in_wsL_law0_r15 : ∀ w ∈ wsL_law0_r15, w ∈ lw_tbl := fun w h => (goodIn_p wsL_law0_r15 [513, 521, 525, 530, 534, 538] (by decide +kernel) (by decide +kernel) w h).1
set_option maxRecDepth 20000 in
theorem in_wsL_law0_r16 : ∀ w ∈ wsL_law0_r16, w ∈ lw_tbl := fun w h => (goodIn_p wsL_law0_r16 [542, 546, 550, 556, 560] (by decide +kernel) (by decide +kernel) w h).1
set_option maxRecDepth 20000 in
theorem in_wsL_law0_r17 : ∀ w ∈ wsL_law0_r17, w ∈ lw_tbl := fun w h => (goodIn_p wsL_law0_r17 [565, 570, 574, 578, 583, 154] (by decide +kernel) (by decide +kernel) w h).1
set_option maxRecDepth 20000 in
theorem in_wsL_law0_r18 : ∀ w ∈ wsL_law0_r18, w ∈ lw_tbl := fun w h => (goodIn_p wsL_law0_r18 [226] (by decide +kernel) (by decide +kernel) w h).1
set_option maxRecDepth 20000 in
theorem in_wsX00 : ∀ w ∈ wsX00, w ∈ lw_tbl := fun w h => (goodIn_p wsX00 [] (by decide +kernel) (by decide +kernel) w h).1
set_option maxRecDepth 20000 in
theorem in_wsX10 : ∀ w ∈ wsX10, w ∈ lw_tbl := fun w h => (goodIn_p wsX10 [] (by decide +kernel) (by decide +kernel) w h).1
set_option maxRecDepth 20000 in
theorem in_wsX20 : ∀ w ∈ wsX20, w ∈ lw_tbl := fun w h => (goodIn_p wsX20 [] (by decide +kernel) (by decide +kernel) w h).1
set_option maxRecDepth 20000 in
theorem in_wsX30 : ∀ w ∈ wsX30, w ∈ lw_tbl := fun w h => (goodIn_p wsX30 [] (by decide +kernel) (by decide +kernel) w h).1
set_option maxRecDepth 20000 in
theorem in_wsX40 : ∀ w ∈ wsX40, w ∈ lw_tbl := fun w h => (goodIn_p wsX40 [] (by decide +kernel) (by decide +kernel) w h).1
theorem wsL_law_in0 : ∀ w ∈ wsL_law0, w ∈ lw_tbl := fun w h => (List.mem_append.mp h).elim (fun h => (List.mem_append.mp h).elim (fun h => (List.mem_append.mp h).elim (fun h => (List.mem_append.mp h).elim (fun h => (List.mem_append.mp h).elim (fun h => (List.mem_append.mp h).elim (fun h => (List.mem_append.mp h).elim (fun h => in_wsL_law0_r1 w h) (fun h => (List.mem_append.mp h).elim (fun h => in_wsL_law0_r2 w h) (fun h => (List.mem_append.mp h).elim (fun h => in_wsL_law0_r3 w h) (fun h => (List.mem_append.mp h).elim (fun h => in_wsL_law0_r4 w h) (fun h => (List.mem_append.mp h).elim (fun h => in_wsL_law0_r5 w h) (fun h => (List.mem_append.mp h).elim (fun h => in_wsL_law0_r6 w h) (fun h => (List.mem_append.mp h).elim (fun h => in_wsL_law0_r7 w h) (fun h => (List.mem_append.mp h).elim (fun h => in_wsL_law0_r8 w h) (fun h => (List.mem_append.mp h).elim (fun h => in_wsL_law0_r9 w h) (fun h => (List.mem_append.mp h).elim (fun h => in_wsL_law0_r10 w h) (fun h => (List.mem_append.mp h).elim (fun h => in_wsL_law0_r11 w h) (fun h => (List.mem_append.mp h).elim (fun h => in_wsL_law0_r12 w h) (fun h => (List.mem_append.mp h).elim (fun h => in_wsL_law0_r13 w h) (fun h => (List.mem_append.mp h).elim (fun h => in_wsL_law0_r14 w h) (fun h => (List.mem_append.mp h).elim (fun h => in_wsL_law0_r15 w h) (fun h => (List.mem_append.mp h).elim (fun h => in_wsL_law0_r16 w h) (fun h => (List.mem_append.mp h).elim (fun h => in_wsL_law0_r17 w h) (fun h => in_wsL_law0_r18 w h)))))))))))))))))) (fun h => in_wsX40 w h)) (fun h => in_wsX10 w h)) (fun h => in_wsX00 w h)) (fun h => in_wsX30 w h)) (fun h => in_wsX20 w h)) (fun h => absurd h List.not_mem_nil)
theorem wsL_law_x0 : ∀ w ∈ (vx_atS RX4 38 "java/lang/IllegalArgumentException" ["java/lang/RuntimeException", "java/lang/Exception"]).filter goodWord, w ∈ lw_tbl := by decide +kernel
theorem wsL_law_x1 : ∀ w ∈ (vx_atS RX4 150 "java/lang/IndexOutOfBoundsException" ["java/lang/RuntimeException", "java/lang/Exception"]).filter goodWord, w ∈ lw_tbl := by decide +kernel
theorem wsL_law_x2 : ∀ w ∈ (vx_atS RX4 101 "java/lang/IllegalStateException" ["java/lang/RuntimeException", "java/lang/Exception"]).filter goodWord, w ∈ lw_tbl := by decide +kernel
theorem wsL_law_in : ∀ w ∈ wsL_law, w ∈ lw_tbl := fun w h => (List.mem_append.mp h).elim (fun h => (List.mem_append.mp h).elim (fun h => (List.mem_append.mp h).elim (fun h => wsL_law_in0 w h) (fun h => wsL_law_x0 w h)) (fun h => wsL_law_x1 w h)) (fun h => wsL_law_x2 w h)
theorem inlX0 : ∀ w ∈ wsX00, w ∈ wsL_law := fun _ h => List.mem_append_left _ (List.mem_append_left _ (List.mem_append_left _ (List.mem_append_left _ (List.mem_append_left _ (List.mem_append_left _ (List.mem_append_right _ h))))))
theorem inX0 : ∀ w ∈ wsX00, w ∈ lw_tbl := fun w h => wsL_law_in w (inlX0 w h)
theorem inlX1 : ∀ w ∈ wsX10, w ∈ wsL_law := fun _ h => List.mem_append_left _ (List.mem_append_left _ (List.mem_append_left _ (List.mem_append_left _ (List.mem_append_left _ (List.mem_append_left _ (List.mem_append_left _ (List.mem_append_right _ h)))))))
theorem inX1 : ∀ w ∈ wsX10, w ∈ lw_tbl := fun w h => wsL_law_in w (inlX1 w h)
theorem inlX2 : ∀ w ∈ wsX20, w ∈ wsL_law := fun _ h => List.mem_append_left _ (List.mem_append_left _ (List.mem_append_left _ (List.mem_append_left _ (List.mem_append_right _ h))))
theorem inX2 : ∀ w ∈ wsX20, w ∈ lw_tbl := fun w h => wsL_law_in w (inlX2 w h)
theorem inlX3 : ∀ w ∈ wsX30, w ∈ wsL_law := fun _ h => List.mem_append_left _ (List.mem_append_left _ (List.mem_append_left _ (List.mem_append_left _ (List.mem_append_left _ (List.mem_append_right _ h)))))
theorem inX3 : ∀ w ∈ wsX30, w ∈ lw_tbl := fun w h => wsL_law_in w (inlX3 w h)
theorem inlX4 : ∀ w ∈ wsX40, w ∈ wsL_law := fun _ h => List.mem_append_left _ (List.mem_append_left _ (List.mem_append_left _ (List.mem_append_left _ (List.mem_append_left _ (List.mem_append_left _ (List.mem_append_left _ (List.mem_append_left _ (List.mem_append_right _ h))))))))
theorem inX4 : ∀ w ∈ wsX40, w ∈ lw_tbl := fun w h => wsL_law_in w (inlX4 w h)
theorem inX5 : ∀ w ∈ wsX50, w ∈ lw_tbl := by decide +kernel
theorem inJ9 : ∀ w ∈ wsJ90, w ∈ lw_tbl := by decide +kernel
theorem inJ0 : ∀ w ∈ wsJ00, w ∈ lw_tbl := by decide +kernel
theorem inJ10 : ∀ w ∈ wsJ100, w ∈ lw_tbl := by decide +kernel
set_option maxRecDepth 20000 in
theorem ggX0_init_X1_init : GoodIn wsX0_init wsX1_init := goodIn_r _ [9, 10, 2, 3, 11, 12, 13, 14, 15, 16, 17, 18, 19, 20, 21, 22, 23, 24, 25, 26, 27, 28, 29, 30, 31, 32, 33, 44, 45, 46, 47, 48, 49, 50, 51, 52, 37, 38, 39, 40, 41, 42, 43] (by decide +kernel) (by decide +kernel)
set_option maxRecDepth 20000 in
theorem gX0_init_X1_init_n17 : GoodIn wsX0_init (wsX1_init) := ggX0_init_X1_init
theorem dX0_init_0 : decode cX0_init 0 = .ok (.aload_n 0, 1) := by decide +kernel
theorem dX0_init_1 : decode cX0_init 1 = .ok (.invokespecial 3, 3) := by decide +kernel
theorem dX0_init_4 : decode cX0_init 4 = .ok (.aload_n 0, 1) := by decide +kernel
theorem dX0_init_5 : decode cX0_init 5 = .ok (.bipush 6, 2) := by decide +kernel
theorem dX0_init_7 : decode cX0_init 7 = .ok (.anewarray 9, 3) := by decide +kernel
theorem dX0_init_10 : decode cX0_init 10 = .ok (.putfield 11, 3) := by decide +kernel
theorem dX0_init_13 : decode cX0_init 13 = .ok (.iconst 0, 1) := by decide +kernel
theorem dX0_init_14 : decode cX0_init 14 = .ok (.istore_n 1, 1) := by decide +kernel
theorem dX0_init_15 : decode cX0_init 15 = .ok (.iload_n 1, 1) := by decide +kernel
theorem dX0_init_16 : decode cX0_init 16 = .ok (.bipush 6, 2) := by decide +kernel
theorem dX0_init_18 : decode cX0_init 18 = .ok (.if_icmp .ge 22, 3) := by decide +kernel
theorem dX0_init_21 : decode cX0_init 21 = .ok (.aload_n 0, 1) := by decide +kernel
theorem dX0_init_22 : decode cX0_init 22 = .ok (.getfield 11, 3) := by decide +kernel
theorem dX0_init_25 : decode cX0_init 25 = .ok (.iload_n 1, 1) := by decide +kernel
theorem dX0_init_26 : decode cX0_init 26 = .ok (.new 9, 3) := by decide +kernel
theorem dX0_init_29 : decode cX0_init 29 = .ok (.dup, 1) := by decide +kernel
theorem dX0_init_30 : decode cX0_init 30 = .ok (.invokespecial 17, 3) := by decide +kernel
theorem dX0_init_33 : decode cX0_init 33 = .ok (.aastore, 1) := by decide +kernel
theorem dX0_init_34 : decode cX0_init 34 = .ok (.iinc 1 1, 3) := by decide +kernel
theorem dX0_init_37 : decode cX0_init 37 = .ok (.goto (-22), 3) := by decide +kernel
theorem dX0_init_40 : decode cX0_init 40 = .ok (.return_, 1) := by decide +kernel
set_option maxRecDepth 20000 in
theorem ggX0_save_J9_floorMod_7cf53 : GoodIn wsX0_save wsJ9_floorMod_7cf53 := goodIn_r _ [11] (by decide +kernel) (by decide +kernel)
set_option maxRecDepth 20000 in
theorem gX0_save_J9_floorMod_7cf53 : GoodIn wsX0_save (va_wsS RX0 22 yJ9_floorMod_7cf53 wsJ9_floorMod_7cf53) := goodIn_app (goodIn_of _ (by decide +kernel)) ggX0_save_J9_floorMod_7cf53
set_option maxRecDepth 20000 in
theorem ggX0_save_X1_copyFrom : GoodIn wsX0_save wsX1_copyFrom := goodIn_r _ [16, 17, 18, 19, 20, 21, 22, 23, 24, 25, 26, 27, 28, 29, 30, 31, 32, 33, 34, 35, 36, 37, 38, 39, 40, 41, 42, 46, 47, 48, 49, 50, 51, 52, 53, 54, 55, 56, 57, 58, 59, 60, 61] (by decide +kernel) (by decide +kernel)
set_option maxRecDepth 20000 in
theorem gX0_save_X1_copyFrom : GoodIn wsX0_save (wsV RX0 28 RX1 yX1_copyFrom wsX1_copyFrom) := goodIn_app (goodIn_of _ (by decide +kernel)) ggX0_save_X1_copyFrom
theorem dX0_save_0 : decode cX0_save 0 = .ok (.aload_n 0, 1) := by decide +kernel
theorem dX0_save_1 : decode cX0_save 1 = .ok (.getfield 11, 3) := by decide +kernel
theorem dX0_save_4 : decode cX0_save 4 = .ok (.aload_n 0, 1) := by decide +kernel
theorem dX0_save_5 : decode cX0_save 5 = .ok (.getfield 18, 3) := by decide +kernel
theorem dX0_save_8 : decode cX0_save 8 = .ok (.bipush 6, 2) := by decide +kernel
theorem dX0_save_10 : decode cX0_save 10 = .ok (.invokestatic 22, 3) := by decide +kernel
theorem dX0_save_13 : decode cX0_save 13 = .ok (.aaload, 1) := by decide +kernel
theorem dX0_save_14 : decode cX0_save 14 = .ok (.astore_n 2, 1) := by decide +kernel
theorem dX0_save_15 : decode cX0_save 15 = .ok (.aload_n 2, 1) := by decide +kernel
theorem dX0_save_16 : decode cX0_save 16 = .ok (.ifnull 8, 3) := by decide +kernel
theorem dX0_save_19 : decode cX0_save 19 = .ok (.aload_n 2, 1) := by decide +kernel
theorem dX0_save_20 : decode cX0_save 20 = .ok (.aload_n 1, 1) := by decide +kernel
theorem dX0_save_21 : decode cX0_save 21 = .ok (.invokevirtual 28, 3) := by decide +kernel
theorem dX0_save_24 : decode cX0_save 24 = .ok (.aload_n 0, 1) := by decide +kernel
theorem dX0_save_25 : decode cX0_save 25 = .ok (.dup, 1) := by decide +kernel
theorem dX0_save_26 : decode cX0_save 26 = .ok (.getfield 18, 3) := by decide +kernel
theorem dX0_save_29 : decode cX0_save 29 = .ok (.iconst 1, 1) := by decide +kernel
theorem dX0_save_30 : decode cX0_save 30 = .ok (.iadd, 1) := by decide +kernel
theorem dX0_save_31 : decode cX0_save 31 = .ok (.putfield 18, 3) := by decide +kernel
theorem dX0_save_34 : decode cX0_save 34 = .ok (.aload_n 0, 1) := by decide +kernel
theorem dX0_save_35 : decode cX0_save 35 = .ok (.aload_n 0, 1) := by decide +kernel
theorem dX0_save_36 : decode cX0_save 36 = .ok (.getfield 32, 3) := by decide +kernel
theorem dX0_save_39 : decode cX0_save 39 = .ok (.iconst 1, 1) := by decide +kernel
theorem dX0_save_40 : decode cX0_save 40 = .ok (.iadd, 1) := by decide +kernel
theorem dX0_save_41 : decode cX0_save 41 = .ok (.bipush 6, 2) := by decide +kernel
theorem dX0_save_43 : decode cX0_save 43 = .ok (.invokestatic 35, 3) := by decide +kernel
theorem dX0_save_46 : decode cX0_save 46 = .ok (.putfield 32, 3) := by decide +kernel
theorem dX0_save_49 : decode cX0_save 49 = .ok (.return_, 1) := by decide +kernel
set_option maxRecDepth 20000 in
theorem ggX0_restore_J9_floorMod_7cf53 : GoodIn wsX0_restore wsJ9_floorMod_7cf53 := goodIn_r _ [11] (by decide +kernel) (by decide +kernel)
set_option maxRecDepth 20000 in
theorem gX0_restore_J9_floorMod_7cf53 : GoodIn wsX0_restore (va_wsS RX0 22 yJ9_floorMod_7cf53 wsJ9_floorMod_7cf53) := goodIn_app (goodIn_of _ (by decide +kernel)) ggX0_restore_J9_floorMod_7cf53
set_option maxRecDepth 20000 in
theorem ggX0_restore_X1_copyFrom : GoodIn wsX0_restore wsX1_copyFrom := goodIn_r _ [16, 17, 18, 19, 20, 21, 22, 23, 24, 25, 26, 27, 28, 29, 30, 31, 32, 33, 34, 35, 36, 37, 38, 39, 40, 41, 42, 46, 47, 48, 49, 50, 51, 52, 53, 54, 55, 56, 57, 58, 59, 60, 61] (by decide +kernel) (by decide +kernel)
set_option maxRecDepth 20000 in
theorem gX0_restore_X1_copyFrom : GoodIn wsX0_restore (wsV RX0 28 RX1 yX1_copyFrom wsX1_copyFrom) := goodIn_app (goodIn_of _ (by decide +kernel)) ggX0_restore_X1_copyFrom
theorem dX0_restore_0 : decode cX0_restore 0 = .ok (.aload_n 0, 1) := by decide +kernel
theorem dX0_restore_1 : decode cX0_restore 1 = .ok (.dup, 1) := by decide +kernel
theorem dX0_restore_2 : decode cX0_restore 2 = .ok (.getfield 18, 3) := by decide +kernel
theorem dX0_restore_5 : decode cX0_restore 5 = .ok (.iconst 1, 1) := by decide +kernel
theorem dX0_restore_6 : decode cX0_restore 6 = .ok (.isub, 1) := by decide +kernel
theorem dX0_restore_7 : decode cX0_restore 7 = .ok (.putfield 18, 3) := by decide +kernel
theorem dX0_restore_10 : decode cX0_restore 10 = .ok (.aload_n 0, 1) := by decide +kernel
theorem dX0_restore_11 : decode cX0_restore 11 = .ok (.aload_n 0, 1) := by decide +kernel
theorem dX0_restore_12 : decode cX0_restore 12 = .ok (.getfield 32, 3) := by decide +kernel
theorem dX0_restore_15 : decode cX0_restore 15 = .ok (.iconst 1, 1) := by decide +kernel
theorem dX0_restore_16 : decode cX0_restore 16 = .ok (.isub, 1) := by decide +kernel
theorem dX0_restore_17 : decode cX0_restore 17 = .ok (.iconst 0, 1) := by decide +kernel
theorem dX0_restore_18 : decode cX0_restore 18 = .ok (.invokestatic 38, 3) := by decide +kernel
theorem dX0_restore_21 : decode cX0_restore 21 = .ok (.putfield 32, 3) := by decide +kernel
theorem dX0_restore_24 : decode cX0_restore 24 = .ok (.aload_n 0, 1) := by decide +kernel
theorem dX0_restore_25 : decode cX0_restore 25 = .ok (.getfield 11, 3) := by decide +kernel
theorem dX0_restore_28 : decode cX0_restore 28 = .ok (.aload_n 0, 1) := by decide +kernel
theorem dX0_restore_29 : decode cX0_restore 29 = .ok (.getfield 18, 3) := by decide +kernel
theorem dX0_restore_32 : decode cX0_restore 32 = .ok (.bipush 6, 2) := by decide +kernel
theorem dX0_restore_34 : decode cX0_restore 34 = .ok (.invokestatic 22, 3) := by decide +kernel
theorem dX0_restore_37 : decode cX0_restore 37 = .ok (.aaload, 1) := by decide +kernel
theorem dX0_restore_38 : decode cX0_restore 38 = .ok (.astore_n 2, 1) := by decide +kernel
theorem dX0_restore_39 : decode cX0_restore 39 = .ok (.aload_n 2, 1) := by decide +kernel
theorem dX0_restore_40 : decode cX0_restore 40 = .ok (.ifnull 8, 3) := by decide +kernel
theorem dX0_restore_43 : decode cX0_restore 43 = .ok (.aload_n 1, 1) := by decide +kernel
theorem dX0_restore_44 : decode cX0_restore 44 = .ok (.aload_n 2, 1) := by decide +kernel
theorem dX0_restore_45 : decode cX0_restore 45 = .ok (.invokevirtual 28, 3) := by decide +kernel
theorem dX0_restore_48 : decode cX0_restore 48 = .ok (.return_, 1) := by decide +kernel
set_option maxRecDepth 20000 in
theorem ggX1_init_X2_init : GoodIn wsX1_init wsX2_init := goodIn_r _ [16, 17, 2, 3, 8, 18, 19, 20, 21, 22, 23, 24, 25, 26, 27, 28, 29, 30, 31, 32, 33, 34, 35] (by decide +kernel) (by decide +kernel)
set_option maxRecDepth 20000 in
theorem gX1_init_X2_init : GoodIn wsX1_init (wsX2_init) := ggX1_init_X2_init
theorem dX1_init_0 : decode cX1_init 0 = .ok (.aload_n 0, 1) := by decide +kernel
theorem dX1_init_1 : decode cX1_init 1 = .ok (.invokespecial 3, 3) := by decide +kernel
theorem dX1_init_4 : decode cX1_init 4 = .ok (.aload_n 0, 1) := by decide +kernel
theorem dX1_init_5 : decode cX1_init 5 = .ok (.new 9, 3) := by decide +kernel
theorem dX1_init_8 : decode cX1_init 8 = .ok (.dup, 1) := by decide +kernel
theorem dX1_init_9 : decode cX1_init 9 = .ok (.invokespecial 11, 3) := by decide +kernel
theorem dX1_init_12 : decode cX1_init 12 = .ok (.putfield 12, 3) := by decide +kernel
theorem dX1_init_15 : decode cX1_init 15 = .ok (.aload_n 0, 1) := by decide +kernel
theorem dX1_init_16 : decode cX1_init 16 = .ok (.bipush 64, 2) := by decide +kernel
theorem dX1_init_18 : decode cX1_init 18 = .ok (.newarray .int, 2) := by decide +kernel
theorem dX1_init_20 : decode cX1_init 20 = .ok (.putfield 18, 3) := by decide +kernel
theorem dX1_init_23 : decode cX1_init 23 = .ok (.aload_n 0, 1) := by decide +kernel
theorem dX1_init_24 : decode cX1_init 24 = .ok (.bipush 64, 2) := by decide +kernel
theorem dX1_init_26 : decode cX1_init 26 = .ok (.newarray .int, 2) := by decide +kernel
theorem dX1_init_28 : decode cX1_init 28 = .ok (.putfield 22, 3) := by decide +kernel
theorem dX1_init_31 : decode cX1_init 31 = .ok (.aload_n 0, 1) := by decide +kernel
theorem dX1_init_32 : decode cX1_init 32 = .ok (.bipush 64, 2) := by decide +kernel
theorem dX1_init_34 : decode cX1_init 34 = .ok (.newarray .int, 2) := by decide +kernel
theorem dX1_init_36 : decode cX1_init 36 = .ok (.putfield 25, 3) := by decide +kernel
theorem dX1_init_39 : decode cX1_init 39 = .ok (.aload_n 0, 1) := by decide +kernel
theorem dX1_init_40 : decode cX1_init 40 = .ok (.bipush 9, 2) := by decide +kernel
theorem dX1_init_42 : decode cX1_init 42 = .ok (.newarray .int, 2) := by decide +kernel
theorem dX1_init_44 : decode cX1_init 44 = .ok (.putfield 28, 3) := by decide +kernel
theorem dX1_init_47 : decode cX1_init 47 = .ok (.aload_n 0, 1) := by decide +kernel
theorem dX1_init_48 : decode cX1_init 48 = .ok (.iconst 1, 1) := by decide +kernel
theorem dX1_init_49 : decode cX1_init 49 = .ok (.putfield 31, 3) := by decide +kernel
theorem dX1_init_52 : decode cX1_init 52 = .ok (.return_, 1) := by decide +kernel
set_option maxRecDepth 20000 in
theorem ggX1_copyFrom_X2_copyFrom : GoodIn wsX1_copyFrom wsX2_copyFrom := goodIn_r _ [16, 17, 18, 4, 5, 6, 19, 20, 21, 22, 23, 24, 25, 26, 34, 35, 36, 37, 38, 39, 40, 41, 42] (by decide +kernel) (by decide +kernel)
set_option maxRecDepth 20000 in
theorem gX1_copyFrom_X2_copyFrom : GoodIn wsX1_copyFrom (wsV RX1 35 RX2 yX2_copyFrom wsX2_copyFrom) := goodIn_app (goodIn_of _ (by decide +kernel)) ggX1_copyFrom_X2_copyFrom
theorem dX1_copyFrom_0 : decode cX1_copyFrom 0 = .ok (.aload_n 0, 1) := by decide +kernel
theorem dX1_copyFrom_1 : decode cX1_copyFrom 1 = .ok (.getfield 12, 3) := by decide +kernel
theorem dX1_copyFrom_4 : decode cX1_copyFrom 4 = .ok (.aload_n 1, 1) := by decide +kernel
theorem dX1_copyFrom_5 : decode cX1_copyFrom 5 = .ok (.getfield 12, 3) := by decide +kernel
theorem dX1_copyFrom_8 : decode cX1_copyFrom 8 = .ok (.invokevirtual 35, 3) := by decide +kernel
theorem dX1_copyFrom_11 : decode cX1_copyFrom 11 = .ok (.aload_n 1, 1) := by decide +kernel
theorem dX1_copyFrom_12 : decode cX1_copyFrom 12 = .ok (.getfield 18, 3) := by decide +kernel
theorem dX1_copyFrom_15 : decode cX1_copyFrom 15 = .ok (.iconst 0, 1) := by decide +kernel
theorem dX1_copyFrom_16 : decode cX1_copyFrom 16 = .ok (.aload_n 0, 1) := by decide +kernel
theorem dX1_copyFrom_17 : decode cX1_copyFrom 17 = .ok (.getfield 18, 3) := by decide +kernel
theorem dX1_copyFrom_20 : decode cX1_copyFrom 20 = .ok (.iconst 0, 1) := by decide +kernel
theorem dX1_copyFrom_21 : decode cX1_copyFrom 21 = .ok (.bipush 64, 2) := by decide +kernel
theorem dX1_copyFrom_23 : decode cX1_copyFrom 23 = .ok (.invokestatic 39, 3) := by decide +kernel
theorem dX1_copyFrom_26 : decode cX1_copyFrom 26 = .ok (.aload_n 1, 1) := by decide +kernel
theorem dX1_copyFrom_27 : decode cX1_copyFrom 27 = .ok (.getfield 22, 3) := by decide +kernel
theorem dX1_copyFrom_30 : decode cX1_copyFrom 30 = .ok (.iconst 0, 1) := by decide +kernel
theorem dX1_copyFrom_31 : decode cX1_copyFrom 31 = .ok (.aload_n 0, 1) := by decide +kernel
theorem dX1_copyFrom_32 : decode cX1_copyFrom 32 = .ok (.getfield 22, 3) := by decide +kernel
theorem dX1_copyFrom_35 : decode cX1_copyFrom 35 = .ok (.iconst 0, 1) := by decide +kernel
theorem dX1_copyFrom_36 : decode cX1_copyFrom 36 = .ok (.bipush 64, 2) := by decide +kernel
theorem dX1_copyFrom_38 : decode cX1_copyFrom 38 = .ok (.invokestatic 39, 3) := by decide +kernel
theorem dX1_copyFrom_41 : decode cX1_copyFrom 41 = .ok (.aload_n 1, 1) := by decide +kernel
theorem dX1_copyFrom_42 : decode cX1_copyFrom 42 = .ok (.getfield 25, 3) := by decide +kernel
theorem dX1_copyFrom_45 : decode cX1_copyFrom 45 = .ok (.iconst 0, 1) := by decide +kernel
theorem dX1_copyFrom_46 : decode cX1_copyFrom 46 = .ok (.aload_n 0, 1) := by decide +kernel
theorem dX1_copyFrom_47 : decode cX1_copyFrom 47 = .ok (.getfield 25, 3) := by decide +kernel
theorem dX1_copyFrom_50 : decode cX1_copyFrom 50 = .ok (.iconst 0, 1) := by decide +kernel
theorem dX1_copyFrom_51 : decode cX1_copyFrom 51 = .ok (.bipush 64, 2) := by decide +kernel
theorem dX1_copyFrom_53 : decode cX1_copyFrom 53 = .ok (.invokestatic 39, 3) := by decide +kernel
theorem dX1_copyFrom_56 : decode cX1_copyFrom 56 = .ok (.aload_n 1, 1) := by decide +kernel
theorem dX1_copyFrom_57 : decode cX1_copyFrom 57 = .ok (.getfield 28, 3) := by decide +kernel
theorem dX1_copyFrom_60 : decode cX1_copyFrom 60 = .ok (.iconst 0, 1) := by decide +kernel
theorem dX1_copyFrom_61 : decode cX1_copyFrom 61 = .ok (.aload_n 0, 1) := by decide +kernel
theorem dX1_copyFrom_62 : decode cX1_copyFrom 62 = .ok (.getfield 28, 3) := by decide +kernel
theorem dX1_copyFrom_65 : decode cX1_copyFrom 65 = .ok (.iconst 0, 1) := by decide +kernel
theorem dX1_copyFrom_66 : decode cX1_copyFrom 66 = .ok (.bipush 9, 2) := by decide +kernel
theorem dX1_copyFrom_68 : decode cX1_copyFrom 68 = .ok (.invokestatic 39, 3) := by decide +kernel
theorem dX1_copyFrom_71 : decode cX1_copyFrom 71 = .ok (.aload_n 0, 1) := by decide +kernel
theorem dX1_copyFrom_72 : decode cX1_copyFrom 72 = .ok (.aload_n 1, 1) := by decide +kernel
theorem dX1_copyFrom_73 : decode cX1_copyFrom 73 = .ok (.getfield 45, 3) := by decide +kernel
theorem dX1_copyFrom_76 : decode cX1_copyFrom 76 = .ok (.putfield 45, 3) := by decide +kernel
theorem dX1_copyFrom_79 : decode cX1_copyFrom 79 = .ok (.aload_n 0, 1) := by decide +kernel
theorem dX1_copyFrom_80 : decode cX1_copyFrom 80 = .ok (.aload_n 1, 1) := by decide +kernel
theorem dX1_copyFrom_81 : decode cX1_copyFrom 81 = .ok (.getfield 31, 3) := by decide +kernel
theorem dX1_copyFrom_84 : decode cX1_copyFrom 84 = .ok (.putfield 31, 3) := by decide +kernel
theorem dX1_copyFrom_87 : decode cX1_copyFrom 87 = .ok (.return_, 1) := by decide +kernel
theorem dX1_canDestage_0 : decode cX1_canDestage 0 = .ok (.aload_n 0, 1) := by decide +kernel
theorem dX1_canDestage_1 : decode cX1_canDestage 1 = .ok (.getfield 31, 3) := by decide +kernel
theorem dX1_canDestage_4 : decode cX1_canDestage 4 = .ok (.ifCond .eq 17, 3) := by decide +kernel
theorem dX1_canDestage_7 : decode cX1_canDestage 7 = .ok (.aload_n 0, 1) := by decide +kernel
theorem dX1_canDestage_8 : decode cX1_canDestage 8 = .ok (.getfield 12, 3) := by decide +kernel
theorem dX1_canDestage_11 : decode cX1_canDestage 11 = .ok (.getfield 49, 3) := by decide +kernel
theorem dX1_canDestage_14 : decode cX1_canDestage 14 = .ok (.ifCond .eq 7, 3) := by decide +kernel
theorem dX1_canDestage_17 : decode cX1_canDestage 17 = .ok (.iconst 1, 1) := by decide +kernel
theorem dX1_canDestage_18 : decode cX1_canDestage 18 = .ok (.goto 4, 3) := by decide +kernel
theorem dX1_canDestage_21 : decode cX1_canDestage 21 = .ok (.iconst 0, 1) := by decide +kernel
theorem dX1_canDestage_22 : decode cX1_canDestage 22 = .ok (.ireturn, 1) := by decide +kernel
theorem dX1_gathers_0 : decode cX1_gathers 0 = .ok (.aload_n 0, 1) := by decide +kernel
theorem dX1_gathers_1 : decode cX1_gathers 1 = .ok (.getfield 12, 3) := by decide +kernel
theorem dX1_gathers_4 : decode cX1_gathers 4 = .ok (.getfield 49, 3) := by decide +kernel
theorem dX1_gathers_7 : decode cX1_gathers 7 = .ok (.ifCond .eq 19, 3) := by decide +kernel
theorem dX1_gathers_10 : decode cX1_gathers 10 = .ok (.aload_n 0, 1) := by decide +kernel
theorem dX1_gathers_11 : decode cX1_gathers 11 = .ok (.getfield 12, 3) := by decide +kernel
theorem dX1_gathers_14 : decode cX1_gathers 14 = .ok (.getfield 52, 3) := by decide +kernel
theorem dX1_gathers_17 : decode cX1_gathers 17 = .ok (.bipush 20, 2) := by decide +kernel
theorem dX1_gathers_19 : decode cX1_gathers 19 = .ok (.if_icmp .lt 7, 3) := by decide +kernel
theorem dX1_gathers_22 : decode cX1_gathers 22 = .ok (.iconst 1, 1) := by decide +kernel
theorem dX1_gathers_23 : decode cX1_gathers 23 = .ok (.goto 4, 3) := by decide +kernel
theorem dX1_gathers_26 : decode cX1_gathers 26 = .ok (.iconst 0, 1) := by decide +kernel
theorem dX1_gathers_27 : decode cX1_gathers 27 = .ok (.ireturn, 1) := by decide +kernel
set_option maxRecDepth 20000 in
theorem ggX1_diskValueOf_X4_isBlock : GoodIn wsX1_diskValueOf wsX4_isBlock := goodIn_r _ [4] (by decide +kernel) (by decide +kernel)
set_option maxRecDepth 20000 in
theorem gX1_diskValueOf_X4_isBlock_n55 : GoodIn wsX1_diskValueOf (wsX4_isBlock) := ggX1_diskValueOf_X4_isBlock
theorem dX1_diskValueOf_0 : decode cX1_diskValueOf 0 = .ok (.iload_n 1, 1) := by decide +kernel
theorem dX1_diskValueOf_1 : decode cX1_diskValueOf 1 = .ok (.invokestatic 55, 3) := by decide +kernel
theorem dX1_diskValueOf_4 : decode cX1_diskValueOf 4 = .ok (.ifCond .eq 12, 3) := by decide +kernel
theorem dX1_diskValueOf_7 : decode cX1_diskValueOf 7 = .ok (.aload_n 0, 1) := by decide +kernel
theorem dX1_diskValueOf_8 : decode cX1_diskValueOf 8 = .ok (.getfield 18, 3) := by decide +kernel
theorem dX1_diskValueOf_11 : decode cX1_diskValueOf 11 = .ok (.iload_n 1, 1) := by decide +kernel
theorem dX1_diskValueOf_12 : decode cX1_diskValueOf 12 = .ok (.iaload, 1) := by decide +kernel
theorem dX1_diskValueOf_13 : decode cX1_diskValueOf 13 = .ok (.goto 4, 3) := by decide +kernel
theorem dX1_diskValueOf_16 : decode cX1_diskValueOf 16 = .ok (.iconst (-1), 1) := by decide +kernel
theorem dX1_diskValueOf_17 : decode cX1_diskValueOf 17 = .ok (.ireturn, 1) := by decide +kernel
set_option maxRecDepth 20000 in
theorem ggX1_putOnDisk_X4_isBlock : GoodIn wsX1_putOnDisk wsX4_isBlock := goodIn_r _ [5] (by decide +kernel) (by decide +kernel)
set_option maxRecDepth 20000 in
theorem gX1_putOnDisk_X4_isBlock_n55 : GoodIn wsX1_putOnDisk (wsX4_isBlock) := ggX1_putOnDisk_X4_isBlock
theorem dX1_putOnDisk_0 : decode cX1_putOnDisk 0 = .ok (.iload_n 1, 1) := by decide +kernel
theorem dX1_putOnDisk_1 : decode cX1_putOnDisk 1 = .ok (.invokestatic 55, 3) := by decide +kernel
theorem dX1_putOnDisk_4 : decode cX1_putOnDisk 4 = .ok (.ifCond .eq 17, 3) := by decide +kernel
theorem dX1_putOnDisk_7 : decode cX1_putOnDisk 7 = .ok (.aload_n 0, 1) := by decide +kernel
theorem dX1_putOnDisk_8 : decode cX1_putOnDisk 8 = .ok (.getfield 18, 3) := by decide +kernel
theorem dX1_putOnDisk_11 : decode cX1_putOnDisk 11 = .ok (.iload_n 1, 1) := by decide +kernel
theorem dX1_putOnDisk_12 : decode cX1_putOnDisk 12 = .ok (.iload_n 2, 1) := by decide +kernel
theorem dX1_putOnDisk_13 : decode cX1_putOnDisk 13 = .ok (.iastore, 1) := by decide +kernel
theorem dX1_putOnDisk_14 : decode cX1_putOnDisk 14 = .ok (.aload_n 0, 1) := by decide +kernel
theorem dX1_putOnDisk_15 : decode cX1_putOnDisk 15 = .ok (.getfield 22, 3) := by decide +kernel
theorem dX1_putOnDisk_18 : decode cX1_putOnDisk 18 = .ok (.iload_n 1, 1) := by decide +kernel
theorem dX1_putOnDisk_19 : decode cX1_putOnDisk 19 = .ok (.iload_n 3, 1) := by decide +kernel
theorem dX1_putOnDisk_20 : decode cX1_putOnDisk 20 = .ok (.iastore, 1) := by decide +kernel
theorem dX1_putOnDisk_21 : decode cX1_putOnDisk 21 = .ok (.return_, 1) := by decide +kernel
set_option maxRecDepth 20000 in
theorem ggX1_countWrittenTogether_X4_readsToWrite : GoodIn wsX1_countWrittenTogether wsX4_readsToWrite := goodIn_r _ [4] (by decide +kernel) (by decide +kernel)
set_option maxRecDepth 20000 in
theorem gX1_countWrittenTogether_X4_readsToWrite_n59 : GoodIn wsX1_countWrittenTogether (wsX4_readsToWrite) := ggX1_countWrittenTogether_X4_readsToWrite
set_option maxRecDepth 20000 in
theorem ggX1_countWrittenTogether_X4_writesToWrite : GoodIn wsX1_countWrittenTogether wsX4_writesToWrite := goodIn_r _ [6] (by decide +kernel) (by decide +kernel)
set_option maxRecDepth 20000 in
theorem gX1_countWrittenTogether_X4_writesToWrite_n63 : GoodIn wsX1_countWrittenTogether (wsX4_writesToWrite) := ggX1_countWrittenTogether_X4_writesToWrite
theorem dX1_countWrittenTogether_0 : decode cX1_countWrittenTogether 0 = .ok (.aload_n 0, 1) := by decide +kernel
theorem dX1_countWrittenTogether_1 : decode cX1_countWrittenTogether 1 = .ok (.getfield 28, 3) := by decide +kernel
theorem dX1_countWrittenTogether_4 : decode cX1_countWrittenTogether 4 = .ok (.iconst 0, 1) := by decide +kernel
theorem dX1_countWrittenTogether_5 : decode cX1_countWrittenTogether 5 = .ok (.dup2, 1) := by decide +kernel
theorem dX1_countWrittenTogether_6 : decode cX1_countWrittenTogether 6 = .ok (.iaload, 1) := by decide +kernel
theorem dX1_countWrittenTogether_7 : decode cX1_countWrittenTogether 7 = .ok (.iload_n 1, 1) := by decide +kernel
theorem dX1_countWrittenTogether_8 : decode cX1_countWrittenTogether 8 = .ok (.invokestatic 59, 3) := by decide +kernel
theorem dX1_countWrittenTogether_11 : decode cX1_countWrittenTogether 11 = .ok (.iadd, 1) := by decide +kernel
theorem dX1_countWrittenTogether_12 : decode cX1_countWrittenTogether 12 = .ok (.iastore, 1) := by decide +kernel
theorem dX1_countWrittenTogether_13 : decode cX1_countWrittenTogether 13 = .ok (.aload_n 0, 1) := by decide +kernel
theorem dX1_countWrittenTogether_14 : decode cX1_countWrittenTogether 14 = .ok (.getfield 28, 3) := by decide +kernel
theorem dX1_countWrittenTogether_17 : decode cX1_countWrittenTogether 17 = .ok (.iconst 1, 1) := by decide +kernel
theorem dX1_countWrittenTogether_18 : decode cX1_countWrittenTogether 18 = .ok (.dup2, 1) := by decide +kernel
theorem dX1_countWrittenTogether_19 : decode cX1_countWrittenTogether 19 = .ok (.iaload, 1) := by decide +kernel
theorem dX1_countWrittenTogether_20 : decode cX1_countWrittenTogether 20 = .ok (.iload_n 1, 1) := by decide +kernel
theorem dX1_countWrittenTogether_21 : decode cX1_countWrittenTogether 21 = .ok (.invokestatic 63, 3) := by decide +kernel
theorem dX1_countWrittenTogether_24 : decode cX1_countWrittenTogether 24 = .ok (.iadd, 1) := by decide +kernel
theorem dX1_countWrittenTogether_25 : decode cX1_countWrittenTogether 25 = .ok (.iastore, 1) := by decide +kernel
theorem dX1_countWrittenTogether_26 : decode cX1_countWrittenTogether 26 = .ok (.return_, 1) := by decide +kernel
set_option maxRecDepth 20000 in
theorem ggX1_writeBlock_X4_isBlock : GoodIn wsX1_writeBlock wsX4_isBlock := goodIn_r _ [6] (by decide +kernel) (by decide +kernel)
set_option maxRecDepth 20000 in
theorem gX1_writeBlock_X4_isBlock_n55 : GoodIn wsX1_writeBlock (wsX4_isBlock) := ggX1_writeBlock_X4_isBlock
set_option maxRecDepth 20000 in
theorem ggX1_writeBlock_X1_gathers : GoodIn wsX1_writeBlock wsX1_gathers := goodIn_r _ [11, 12, 13, 14, 91, 92, 93, 94, 95, 96, 97, 98, 99, 100, 101, 102, 103, 104, 105, 106] (by decide +kernel) (by decide +kernel)
set_option maxRecDepth 20000 in
theorem gX1_writeBlock_X1_gathers : GoodIn wsX1_writeBlock (wsV RX1 66 RX1 yX1_gathers wsX1_gathers) := goodIn_app (goodIn_of _ (by decide +kernel)) ggX1_writeBlock_X1_gathers
set_option maxRecDepth 20000 in
theorem ggX1_writeBlock_X1_gather : GoodIn wsX1_writeBlock wsX1_gather := goodIn_r _ [18, 12, 2, 1, 19, 5, 20, 21, 22, 23, 24, 25, 26, 27, 28, 29, 30, 31, 32, 33, 34, 35, 36, 37, 38, 39, 40, 41, 42, 43, 44, 45, 46, 47, 48, 49, 10, 50, 51, 52, 53, 54, 55, 56, 57, 58, 59, 60, 61, 4, 6, 62, 63, 64, 65, 66, 67, 68, 69, 70, 71, 72, 73, 74, 75, 76, 77, 78, 79, 80, 91, 92, 93, 94, 95, 96, 97, 98, 99, 100, 101, 102, 103, 104, 105, 106] (by decide +kernel) (by decide +kernel)
set_option maxRecDepth 20000 in
theorem gX1_writeBlock_X1_gather : GoodIn wsX1_writeBlock (wsV RX1 70 RX1 yX1_gather wsX1_gather) := goodIn_app (goodIn_of _ (by decide +kernel)) ggX1_writeBlock_X1_gather
set_option maxRecDepth 20000 in
theorem ggX1_writeBlock_X1_writeThrough : GoodIn wsX1_writeBlock wsX1_writeThrough := goodIn_r _ [84, 2, 12, 1, 56, 57, 58, 10, 59, 60, 61, 4, 5, 6, 62, 63, 64, 65, 66, 67, 68, 69, 85, 86, 87, 24, 88, 89, 90, 22, 23, 25, 26, 70, 71, 72, 73, 74, 75, 33, 27, 28, 76, 77, 78, 79, 80, 34, 91, 92, 93, 94, 95, 96, 97, 98, 99, 100, 101, 102, 103, 104, 105, 106] (by decide +kernel) (by decide +kernel)
set_option maxRecDepth 20000 in
theorem gX1_writeBlock_X1_writeThrough : GoodIn wsX1_writeBlock (wsV RX1 74 RX1 yX1_writeThrough wsX1_writeThrough) := goodIn_app (goodIn_of _ (by decide +kernel)) ggX1_writeBlock_X1_writeThrough
theorem dX1_writeBlock_0 : decode cX1_writeBlock 0 = .ok (.aload_n 0, 1) := by decide +kernel
theorem dX1_writeBlock_1 : decode cX1_writeBlock 1 = .ok (.getfield 28, 3) := by decide +kernel
theorem dX1_writeBlock_4 : decode cX1_writeBlock 4 = .ok (.iconst 0, 1) := by decide +kernel
theorem dX1_writeBlock_5 : decode cX1_writeBlock 5 = .ok (.iaload, 1) := by decide +kernel
theorem dX1_writeBlock_6 : decode cX1_writeBlock 6 = .ok (.aload_n 0, 1) := by decide +kernel
theorem dX1_writeBlock_7 : decode cX1_writeBlock 7 = .ok (.getfield 28, 3) := by decide +kernel
theorem dX1_writeBlock_10 : decode cX1_writeBlock 10 = .ok (.iconst 1, 1) := by decide +kernel
theorem dX1_writeBlock_11 : decode cX1_writeBlock 11 = .ok (.iaload, 1) := by decide +kernel
theorem dX1_writeBlock_12 : decode cX1_writeBlock 12 = .ok (.iadd, 1) := by decide +kernel
theorem dX1_writeBlock_13 : decode cX1_writeBlock 13 = .ok (.istore_n 3, 1) := by decide +kernel
theorem dX1_writeBlock_14 : decode cX1_writeBlock 14 = .ok (.aload_n 0, 1) := by decide +kernel
theorem dX1_writeBlock_15 : decode cX1_writeBlock 15 = .ok (.dup, 1) := by decide +kernel
theorem dX1_writeBlock_16 : decode cX1_writeBlock 16 = .ok (.getfield 45, 3) := by decide +kernel
theorem dX1_writeBlock_19 : decode cX1_writeBlock 19 = .ok (.iconst 1, 1) := by decide +kernel
theorem dX1_writeBlock_20 : decode cX1_writeBlock 20 = .ok (.iadd, 1) := by decide +kernel
theorem dX1_writeBlock_21 : decode cX1_writeBlock 21 = .ok (.putfield 45, 3) := by decide +kernel
theorem dX1_writeBlock_24 : decode cX1_writeBlock 24 = .ok (.iload_n 1, 1) := by decide +kernel
theorem dX1_writeBlock_25 : decode cX1_writeBlock 25 = .ok (.invokestatic 55, 3) := by decide +kernel
theorem dX1_writeBlock_28 : decode cX1_writeBlock 28 = .ok (.ifCond .eq 13, 3) := by decide +kernel
theorem dX1_writeBlock_31 : decode cX1_writeBlock 31 = .ok (.aload_n 0, 1) := by decide +kernel
theorem dX1_writeBlock_32 : decode cX1_writeBlock 32 = .ok (.getfield 25, 3) := by decide +kernel
theorem dX1_writeBlock_35 : decode cX1_writeBlock 35 = .ok (.iload_n 1, 1) := by decide +kernel
theorem dX1_writeBlock_36 : decode cX1_writeBlock 36 = .ok (.aload_n 0, 1) := by decide +kernel
theorem dX1_writeBlock_37 : decode cX1_writeBlock 37 = .ok (.getfield 45, 3) := by decide +kernel
theorem dX1_writeBlock_40 : decode cX1_writeBlock 40 = .ok (.iastore, 1) := by decide +kernel
theorem dX1_writeBlock_41 : decode cX1_writeBlock 41 = .ok (.aload_n 0, 1) := by decide +kernel
theorem dX1_writeBlock_42 : decode cX1_writeBlock 42 = .ok (.invokevirtual 66, 3) := by decide +kernel
theorem dX1_writeBlock_45 : decode cX1_writeBlock 45 = .ok (.ifCond .eq 12, 3) := by decide +kernel
theorem dX1_writeBlock_48 : decode cX1_writeBlock 48 = .ok (.aload_n 0, 1) := by decide +kernel
theorem dX1_writeBlock_49 : decode cX1_writeBlock 49 = .ok (.iload_n 1, 1) := by decide +kernel
theorem dX1_writeBlock_50 : decode cX1_writeBlock 50 = .ok (.iload_n 2, 1) := by decide +kernel
theorem dX1_writeBlock_51 : decode cX1_writeBlock 51 = .ok (.invokevirtual 70, 3) := by decide +kernel
theorem dX1_writeBlock_54 : decode cX1_writeBlock 54 = .ok (.goto 9, 3) := by decide +kernel
theorem dX1_writeBlock_57 : decode cX1_writeBlock 57 = .ok (.aload_n 0, 1) := by decide +kernel
theorem dX1_writeBlock_58 : decode cX1_writeBlock 58 = .ok (.iload_n 1, 1) := by decide +kernel
theorem dX1_writeBlock_59 : decode cX1_writeBlock 59 = .ok (.iload_n 2, 1) := by decide +kernel
theorem dX1_writeBlock_60 : decode cX1_writeBlock 60 = .ok (.invokevirtual 74, 3) := by decide +kernel
theorem dX1_writeBlock_63 : decode cX1_writeBlock 63 = .ok (.aload_n 0, 1) := by decide +kernel
theorem dX1_writeBlock_64 : decode cX1_writeBlock 64 = .ok (.getfield 28, 3) := by decide +kernel
theorem dX1_writeBlock_67 : decode cX1_writeBlock 67 = .ok (.iconst 0, 1) := by decide +kernel
theorem dX1_writeBlock_68 : decode cX1_writeBlock 68 = .ok (.iaload, 1) := by decide +kernel
theorem dX1_writeBlock_69 : decode cX1_writeBlock 69 = .ok (.aload_n 0, 1) := by decide +kernel
theorem dX1_writeBlock_70 : decode cX1_writeBlock 70 = .ok (.getfield 28, 3) := by decide +kernel
theorem dX1_writeBlock_73 : decode cX1_writeBlock 73 = .ok (.iconst 1, 1) := by decide +kernel
theorem dX1_writeBlock_74 : decode cX1_writeBlock 74 = .ok (.iaload, 1) := by decide +kernel
theorem dX1_writeBlock_75 : decode cX1_writeBlock 75 = .ok (.iadd, 1) := by decide +kernel
theorem dX1_writeBlock_76 : decode cX1_writeBlock 76 = .ok (.iload_n 3, 1) := by decide +kernel
theorem dX1_writeBlock_77 : decode cX1_writeBlock 77 = .ok (.isub, 1) := by decide +kernel
theorem dX1_writeBlock_78 : decode cX1_writeBlock 78 = .ok (.ireturn, 1) := by decide +kernel
set_option maxRecDepth 20000 in
theorem ggX1_gather_X4_stripeOf : GoodIn wsX1_gather wsX4_stripeOf := goodIn_r _ [6] (by decide +kernel) (by decide +kernel)
set_option maxRecDepth 20000 in
theorem gX1_gather_X4_stripeOf_n77 : GoodIn wsX1_gather (wsX4_stripeOf) := ggX1_gather_X4_stripeOf
set_option maxRecDepth 20000 in
theorem ggX1_gather_X2_lineOf : GoodIn wsX1_gather wsX2_lineOf := goodIn_r _ [11, 12, 77, 78, 79, 80, 81, 82, 83, 84, 85] (by decide +kernel) (by decide +kernel)
set_option maxRecDepth 20000 in
theorem gX1_gather_X2_lineOf : GoodIn wsX1_gather (wsV RX1 80 RX2 yX2_lineOf wsX2_lineOf) := goodIn_app (goodIn_of _ (by decide +kernel)) ggX1_gather_X2_lineOf
set_option maxRecDepth 20000 in
theorem ggX1_gather_X4_isLine : GoodIn wsX1_gather wsX4_isLine := goodIn_r _ [14] (by decide +kernel) (by decide +kernel)
set_option maxRecDepth 20000 in
theorem gX1_gather_X4_isLine_n83 : GoodIn wsX1_gather (wsX4_isLine) := ggX1_gather_X4_isLine
set_option maxRecDepth 20000 in
theorem ggX1_gather_X2_freeLine : GoodIn wsX1_gather wsX2_freeLine := goodIn_r _ [18, 19, 12, 20, 77, 78, 79, 80, 81, 82, 83, 84, 85] (by decide +kernel) (by decide +kernel)
set_option maxRecDepth 20000 in
theorem gX1_gather_X2_freeLine : GoodIn wsX1_gather (wsV RX1 86 RX2 yX2_freeLine wsX2_freeLine) := goodIn_app (goodIn_of _ (by decide +kernel)) ggX1_gather_X2_freeLine
set_option maxRecDepth 20000 in
theorem ggX1_gather_X2_fullestStripe : GoodIn wsX1_gather wsX2_fullestStripe := goodIn_r _ [24, 25, 26, 27, 10, 28, 29, 30, 31, 32, 19, 12, 4, 5, 6, 77, 78, 79, 80, 81, 82, 83, 84, 85] (by decide +kernel) (by decide +kernel)
set_option maxRecDepth 20000 in
theorem gX1_gather_X2_fullestStripe : GoodIn wsX1_gather (wsV RX1 89 RX2 yX2_fullestStripe wsX2_fullestStripe) := goodIn_app (goodIn_of _ (by decide +kernel)) ggX1_gather_X2_fullestStripe
set_option maxRecDepth 20000 in
theorem ggX1_gather_X1_destageStripe : GoodIn wsX1_gather wsX1_destageStripe := goodIn_r _ [37, 1, 38, 39, 40, 41, 3, 42, 30, 31, 10, 32, 19, 12, 4, 5, 6, 43, 44, 45, 36, 46, 47, 48, 49, 50, 51, 52, 53, 54, 55, 56, 57, 58, 70, 71, 72, 73, 74, 75, 76, 77, 78, 79, 80, 81, 82, 83, 84, 85] (by decide +kernel) (by decide +kernel)
set_option maxRecDepth 20000 in
theorem gX1_gather_X1_destageStripe : GoodIn wsX1_gather (wsV RX1 92 RX1 yX1_destageStripe wsX1_destageStripe) := goodIn_app (goodIn_of _ (by decide +kernel)) ggX1_gather_X1_destageStripe
set_option maxRecDepth 20000 in
theorem ggX1_gather_X2_fill : GoodIn wsX1_gather wsX2_fill := goodIn_r _ [62, 12, 63, 64, 19, 13, 5, 14, 65, 66, 67, 10, 68, 69, 20, 77, 78, 79, 80, 81, 82, 83, 84, 85] (by decide +kernel) (by decide +kernel)
set_option maxRecDepth 20000 in
theorem gX1_gather_X2_fill : GoodIn wsX1_gather (wsV RX1 95 RX2 yX2_fill wsX2_fill) := goodIn_app (goodIn_of _ (by decide +kernel)) ggX1_gather_X2_fill
theorem dX1_gather_0 : decode cX1_gather 0 = .ok (.iload_n 1, 1) := by decide +kernel
theorem dX1_gather_1 : decode cX1_gather 1 = .ok (.invokestatic 77, 3) := by decide +kernel
theorem dX1_gather_4 : decode cX1_gather 4 = .ok (.iconst 4, 1) := by decide +kernel
theorem dX1_gather_5 : decode cX1_gather 5 = .ok (.irem, 1) := by decide +kernel
theorem dX1_gather_6 : decode cX1_gather 6 = .ok (.istore_n 3, 1) := by decide +kernel
theorem dX1_gather_7 : decode cX1_gather 7 = .ok (.aload_n 0, 1) := by decide +kernel
theorem dX1_gather_8 : decode cX1_gather 8 = .ok (.getfield 12, 3) := by decide +kernel
theorem dX1_gather_11 : decode cX1_gather 11 = .ok (.iload_n 1, 1) := by decide +kernel
theorem dX1_gather_12 : decode cX1_gather 12 = .ok (.invokevirtual 80, 3) := by decide +kernel
theorem dX1_gather_15 : decode cX1_gather 15 = .ok (.istore 4, 2) := by decide +kernel
theorem dX1_gather_17 : decode cX1_gather 17 = .ok (.iload 4, 2) := by decide +kernel
theorem dX1_gather_19 : decode cX1_gather 19 = .ok (.invokestatic 83, 3) := by decide +kernel
theorem dX1_gather_22 : decode cX1_gather 22 = .ok (.ifCond .ne 13, 3) := by decide +kernel
theorem dX1_gather_25 : decode cX1_gather 25 = .ok (.aload_n 0, 1) := by decide +kernel
theorem dX1_gather_26 : decode cX1_gather 26 = .ok (.getfield 12, 3) := by decide +kernel
theorem dX1_gather_29 : decode cX1_gather 29 = .ok (.iload_n 3, 1) := by decide +kernel
theorem dX1_gather_30 : decode cX1_gather 30 = .ok (.invokevirtual 86, 3) := by decide +kernel
theorem dX1_gather_33 : decode cX1_gather 33 = .ok (.istore 4, 2) := by decide +kernel
theorem dX1_gather_35 : decode cX1_gather 35 = .ok (.iload 4, 2) := by decide +kernel
theorem dX1_gather_37 : decode cX1_gather 37 = .ok (.invokestatic 83, 3) := by decide +kernel
theorem dX1_gather_40 : decode cX1_gather 40 = .ok (.ifCond .ne 26, 3) := by decide +kernel
theorem dX1_gather_43 : decode cX1_gather 43 = .ok (.aload_n 0, 1) := by decide +kernel
theorem dX1_gather_44 : decode cX1_gather 44 = .ok (.aload_n 0, 1) := by decide +kernel
theorem dX1_gather_45 : decode cX1_gather 45 = .ok (.getfield 12, 3) := by decide +kernel
theorem dX1_gather_48 : decode cX1_gather 48 = .ok (.iload_n 3, 1) := by decide +kernel
theorem dX1_gather_49 : decode cX1_gather 49 = .ok (.invokevirtual 89, 3) := by decide +kernel
theorem dX1_gather_52 : decode cX1_gather 52 = .ok (.invokevirtual 92, 3) := by decide +kernel
theorem dX1_gather_55 : decode cX1_gather 55 = .ok (.pop, 1) := by decide +kernel
theorem dX1_gather_56 : decode cX1_gather 56 = .ok (.aload_n 0, 1) := by decide +kernel
theorem dX1_gather_57 : decode cX1_gather 57 = .ok (.getfield 12, 3) := by decide +kernel
theorem dX1_gather_60 : decode cX1_gather 60 = .ok (.iload_n 3, 1) := by decide +kernel
theorem dX1_gather_61 : decode cX1_gather 61 = .ok (.invokevirtual 86, 3) := by decide +kernel
theorem dX1_gather_64 : decode cX1_gather 64 = .ok (.istore 4, 2) := by decide +kernel
theorem dX1_gather_66 : decode cX1_gather 66 = .ok (.aload_n 0, 1) := by decide +kernel
theorem dX1_gather_67 : decode cX1_gather 67 = .ok (.getfield 12, 3) := by decide +kernel
theorem dX1_gather_70 : decode cX1_gather 70 = .ok (.iload 4, 2) := by decide +kernel
theorem dX1_gather_72 : decode cX1_gather 72 = .ok (.iload_n 1, 1) := by decide +kernel
theorem dX1_gather_73 : decode cX1_gather 73 = .ok (.iload_n 2, 1) := by decide +kernel
theorem dX1_gather_74 : decode cX1_gather 74 = .ok (.aload_n 0, 1) := by decide +kernel
theorem dX1_gather_75 : decode cX1_gather 75 = .ok (.getfield 45, 3) := by decide +kernel
theorem dX1_gather_78 : decode cX1_gather 78 = .ok (.iconst 1, 1) := by decide +kernel
theorem dX1_gather_79 : decode cX1_gather 79 = .ok (.invokevirtual 95, 3) := by decide +kernel
theorem dX1_gather_82 : decode cX1_gather 82 = .ok (.aload_n 0, 1) := by decide +kernel
theorem dX1_gather_83 : decode cX1_gather 83 = .ok (.getfield 28, 3) := by decide +kernel
theorem dX1_gather_86 : decode cX1_gather 86 = .ok (.iconst 2, 1) := by decide +kernel
theorem dX1_gather_87 : decode cX1_gather 87 = .ok (.dup2, 1) := by decide +kernel
theorem dX1_gather_88 : decode cX1_gather 88 = .ok (.iaload, 1) := by decide +kernel
theorem dX1_gather_89 : decode cX1_gather 89 = .ok (.iconst 1, 1) := by decide +kernel
theorem dX1_gather_90 : decode cX1_gather 90 = .ok (.iadd, 1) := by decide +kernel
theorem dX1_gather_91 : decode cX1_gather 91 = .ok (.iastore, 1) := by decide +kernel
theorem dX1_gather_92 : decode cX1_gather 92 = .ok (.return_, 1) := by decide +kernel
set_option maxRecDepth 20000 in
theorem ggX1_writeThrough_X1_putOnDisk : GoodIn wsX1_writeThrough wsX1_putOnDisk := goodIn_r _ [8, 9, 10, 11, 12, 13, 48, 49, 50, 51, 52, 53, 54] (by decide +kernel) (by decide +kernel)
set_option maxRecDepth 20000 in
theorem gX1_writeThrough_X1_putOnDisk : GoodIn wsX1_writeThrough (wsV RX1 99 RX1 yX1_putOnDisk wsX1_putOnDisk) := goodIn_app (goodIn_of _ (by decide +kernel)) ggX1_writeThrough_X1_putOnDisk
set_option maxRecDepth 20000 in
theorem ggX1_writeThrough_X1_countWrittenTogether : GoodIn wsX1_writeThrough wsX1_countWrittenTogether := goodIn_r _ [17, 3, 18, 12, 19, 20, 21, 48, 49, 50, 51, 52, 53, 54] (by decide +kernel) (by decide +kernel)
set_option maxRecDepth 20000 in
theorem gX1_writeThrough_X1_countWrittenTogether : GoodIn wsX1_writeThrough (wsV RX1 103 RX1 yX1_countWrittenTogether wsX1_countWrittenTogether) := goodIn_app (goodIn_of _ (by decide +kernel)) ggX1_writeThrough_X1_countWrittenTogether
set_option maxRecDepth 20000 in
theorem ggX1_writeThrough_X2_lineInReach : GoodIn wsX1_writeThrough wsX2_lineInReach := goodIn_r _ [26, 27, 28, 29, 30, 25, 31, 32, 55, 56, 57, 58, 59, 60, 61, 62, 63] (by decide +kernel) (by decide +kernel)
set_option maxRecDepth 20000 in
theorem gX1_writeThrough_X2_lineInReach : GoodIn wsX1_writeThrough (wsV RX1 107 RX2 yX2_lineInReach wsX2_lineInReach) := goodIn_app (goodIn_of _ (by decide +kernel)) ggX1_writeThrough_X2_lineInReach
set_option maxRecDepth 20000 in
theorem ggX1_writeThrough_X2_fill : GoodIn wsX1_writeThrough wsX2_fill := goodIn_r _ [36, 32, 37, 38, 39, 40, 12, 41, 42, 43, 44, 25, 45, 46, 47, 55, 56, 57, 58, 59, 60, 61, 62, 63] (by decide +kernel) (by decide +kernel)
set_option maxRecDepth 20000 in
theorem gX1_writeThrough_X2_fill : GoodIn wsX1_writeThrough (wsV RX1 95 RX2 yX2_fill wsX2_fill) := goodIn_app (goodIn_of _ (by decide +kernel)) ggX1_writeThrough_X2_fill
theorem dX1_writeThrough_0 : decode cX1_writeThrough 0 = .ok (.aload_n 0, 1) := by decide +kernel
theorem dX1_writeThrough_1 : decode cX1_writeThrough 1 = .ok (.iload_n 1, 1) := by decide +kernel
theorem dX1_writeThrough_2 : decode cX1_writeThrough 2 = .ok (.iload_n 2, 1) := by decide +kernel
theorem dX1_writeThrough_3 : decode cX1_writeThrough 3 = .ok (.aload_n 0, 1) := by decide +kernel
theorem dX1_writeThrough_4 : decode cX1_writeThrough 4 = .ok (.getfield 45, 3) := by decide +kernel
theorem dX1_writeThrough_7 : decode cX1_writeThrough 7 = .ok (.invokevirtual 99, 3) := by decide +kernel
theorem dX1_writeThrough_10 : decode cX1_writeThrough 10 = .ok (.aload_n 0, 1) := by decide +kernel
theorem dX1_writeThrough_11 : decode cX1_writeThrough 11 = .ok (.iconst 1, 1) := by decide +kernel
theorem dX1_writeThrough_12 : decode cX1_writeThrough 12 = .ok (.invokevirtual 103, 3) := by decide +kernel
theorem dX1_writeThrough_15 : decode cX1_writeThrough 15 = .ok (.aload_n 0, 1) := by decide +kernel
theorem dX1_writeThrough_16 : decode cX1_writeThrough 16 = .ok (.getfield 12, 3) := by decide +kernel
theorem dX1_writeThrough_19 : decode cX1_writeThrough 19 = .ok (.aload_n 0, 1) := by decide +kernel
theorem dX1_writeThrough_20 : decode cX1_writeThrough 20 = .ok (.getfield 12, 3) := by decide +kernel
theorem dX1_writeThrough_23 : decode cX1_writeThrough 23 = .ok (.iload_n 1, 1) := by decide +kernel
theorem dX1_writeThrough_24 : decode cX1_writeThrough 24 = .ok (.invokevirtual 107, 3) := by decide +kernel
theorem dX1_writeThrough_27 : decode cX1_writeThrough 27 = .ok (.iload_n 1, 1) := by decide +kernel
theorem dX1_writeThrough_28 : decode cX1_writeThrough 28 = .ok (.iload_n 2, 1) := by decide +kernel
theorem dX1_writeThrough_29 : decode cX1_writeThrough 29 = .ok (.aload_n 0, 1) := by decide +kernel
theorem dX1_writeThrough_30 : decode cX1_writeThrough 30 = .ok (.getfield 45, 3) := by decide +kernel
theorem dX1_writeThrough_33 : decode cX1_writeThrough 33 = .ok (.iconst 0, 1) := by decide +kernel
theorem dX1_writeThrough_34 : decode cX1_writeThrough 34 = .ok (.invokevirtual 95, 3) := by decide +kernel
theorem dX1_writeThrough_37 : decode cX1_writeThrough 37 = .ok (.aload_n 0, 1) := by decide +kernel
theorem dX1_writeThrough_38 : decode cX1_writeThrough 38 = .ok (.getfield 28, 3) := by decide +kernel
theorem dX1_writeThrough_41 : decode cX1_writeThrough 41 = .ok (.iconst 3, 1) := by decide +kernel
theorem dX1_writeThrough_42 : decode cX1_writeThrough 42 = .ok (.dup2, 1) := by decide +kernel
theorem dX1_writeThrough_43 : decode cX1_writeThrough 43 = .ok (.iaload, 1) := by decide +kernel
theorem dX1_writeThrough_44 : decode cX1_writeThrough 44 = .ok (.iconst 1, 1) := by decide +kernel
theorem dX1_writeThrough_45 : decode cX1_writeThrough 45 = .ok (.iadd, 1) := by decide +kernel
theorem dX1_writeThrough_46 : decode cX1_writeThrough 46 = .ok (.iastore, 1) := by decide +kernel
theorem dX1_writeThrough_47 : decode cX1_writeThrough 47 = .ok (.return_, 1) := by decide +kernel
set_option maxRecDepth 20000 in
theorem ggX1_readBlock_X2_lineInReach : GoodIn wsX1_readBlock wsX2_lineInReach := goodIn_r _ [8, 9, 10, 11, 12, 7, 13, 14, 39, 40, 41, 42, 43, 44, 45, 46, 47] (by decide +kernel) (by decide +kernel)
set_option maxRecDepth 20000 in
theorem gX1_readBlock_X2_lineInReach : GoodIn wsX1_readBlock (wsV RX1 107 RX2 yX2_lineInReach wsX2_lineInReach) := goodIn_app (goodIn_of _ (by decide +kernel)) ggX1_readBlock_X2_lineInReach
set_option maxRecDepth 20000 in
theorem ggX1_readBlock_X4_isLine : GoodIn wsX1_readBlock wsX4_isLine := goodIn_r _ [17] (by decide +kernel) (by decide +kernel)
set_option maxRecDepth 20000 in
theorem gX1_readBlock_X4_isLine_n83 : GoodIn wsX1_readBlock (wsX4_isLine) := ggX1_readBlock_X4_isLine
set_option maxRecDepth 20000 in
theorem ggX1_readBlock_X2_use : GoodIn wsX1_readBlock wsX2_use := goodIn_r _ [21, 22, 23, 15, 16, 17, 39, 40, 41, 42, 43, 44, 45, 46, 47] (by decide +kernel) (by decide +kernel)
set_option maxRecDepth 20000 in
theorem gX1_readBlock_X2_use : GoodIn wsX1_readBlock (wsV RX1 110 RX2 yX2_use wsX2_use) := goodIn_app (goodIn_of _ (by decide +kernel)) ggX1_readBlock_X2_use
set_option maxRecDepth 20000 in
theorem ggX1_readBlock_X1_diskValueOf : GoodIn wsX1_readBlock wsX1_diskValueOf := goodIn_r _ [28, 29, 30, 16, 31, 32, 33, 34, 35, 36, 37, 38] (by decide +kernel) (by decide +kernel)
set_option maxRecDepth 20000 in
theorem gX1_readBlock_X1_diskValueOf : GoodIn wsX1_readBlock (wsV RX1 116 RX1 yX1_diskValueOf wsX1_diskValueOf) := goodIn_app (goodIn_of _ (by decide +kernel)) ggX1_readBlock_X1_diskValueOf
theorem dX1_readBlock_0 : decode cX1_readBlock 0 = .ok (.aload_n 0, 1) := by decide +kernel
theorem dX1_readBlock_1 : decode cX1_readBlock 1 = .ok (.getfield 12, 3) := by decide +kernel
theorem dX1_readBlock_4 : decode cX1_readBlock 4 = .ok (.iload_n 1, 1) := by decide +kernel
theorem dX1_readBlock_5 : decode cX1_readBlock 5 = .ok (.invokevirtual 107, 3) := by decide +kernel
theorem dX1_readBlock_8 : decode cX1_readBlock 8 = .ok (.istore_n 2, 1) := by decide +kernel
theorem dX1_readBlock_9 : decode cX1_readBlock 9 = .ok (.iload_n 2, 1) := by decide +kernel
theorem dX1_readBlock_10 : decode cX1_readBlock 10 = .ok (.invokestatic 83, 3) := by decide +kernel
theorem dX1_readBlock_13 : decode cX1_readBlock 13 = .ok (.ifCond .eq 31, 3) := by decide +kernel
theorem dX1_readBlock_16 : decode cX1_readBlock 16 = .ok (.aload_n 0, 1) := by decide +kernel
theorem dX1_readBlock_17 : decode cX1_readBlock 17 = .ok (.getfield 28, 3) := by decide +kernel
theorem dX1_readBlock_20 : decode cX1_readBlock 20 = .ok (.iconst 4, 1) := by decide +kernel
theorem dX1_readBlock_21 : decode cX1_readBlock 21 = .ok (.dup2, 1) := by decide +kernel
theorem dX1_readBlock_22 : decode cX1_readBlock 22 = .ok (.iaload, 1) := by decide +kernel
theorem dX1_readBlock_23 : decode cX1_readBlock 23 = .ok (.iconst 1, 1) := by decide +kernel
theorem dX1_readBlock_24 : decode cX1_readBlock 24 = .ok (.iadd, 1) := by decide +kernel
theorem dX1_readBlock_25 : decode cX1_readBlock 25 = .ok (.iastore, 1) := by decide +kernel
theorem dX1_readBlock_26 : decode cX1_readBlock 26 = .ok (.aload_n 0, 1) := by decide +kernel
theorem dX1_readBlock_27 : decode cX1_readBlock 27 = .ok (.getfield 12, 3) := by decide +kernel
theorem dX1_readBlock_30 : decode cX1_readBlock 30 = .ok (.iload_n 2, 1) := by decide +kernel
theorem dX1_readBlock_31 : decode cX1_readBlock 31 = .ok (.invokevirtual 110, 3) := by decide +kernel
theorem dX1_readBlock_34 : decode cX1_readBlock 34 = .ok (.aload_n 0, 1) := by decide +kernel
theorem dX1_readBlock_35 : decode cX1_readBlock 35 = .ok (.getfield 12, 3) := by decide +kernel
theorem dX1_readBlock_38 : decode cX1_readBlock 38 = .ok (.getfield 113, 3) := by decide +kernel
theorem dX1_readBlock_41 : decode cX1_readBlock 41 = .ok (.iload_n 2, 1) := by decide +kernel
theorem dX1_readBlock_42 : decode cX1_readBlock 42 = .ok (.iaload, 1) := by decide +kernel
theorem dX1_readBlock_43 : decode cX1_readBlock 43 = .ok (.ireturn, 1) := by decide +kernel
theorem dX1_readBlock_44 : decode cX1_readBlock 44 = .ok (.aload_n 0, 1) := by decide +kernel
theorem dX1_readBlock_45 : decode cX1_readBlock 45 = .ok (.getfield 28, 3) := by decide +kernel
theorem dX1_readBlock_48 : decode cX1_readBlock 48 = .ok (.iconst 5, 1) := by decide +kernel
theorem dX1_readBlock_49 : decode cX1_readBlock 49 = .ok (.dup2, 1) := by decide +kernel
theorem dX1_readBlock_50 : decode cX1_readBlock 50 = .ok (.iaload, 1) := by decide +kernel
theorem dX1_readBlock_51 : decode cX1_readBlock 51 = .ok (.iconst 1, 1) := by decide +kernel
theorem dX1_readBlock_52 : decode cX1_readBlock 52 = .ok (.iadd, 1) := by decide +kernel
theorem dX1_readBlock_53 : decode cX1_readBlock 53 = .ok (.iastore, 1) := by decide +kernel
theorem dX1_readBlock_54 : decode cX1_readBlock 54 = .ok (.aload_n 0, 1) := by decide +kernel
theorem dX1_readBlock_55 : decode cX1_readBlock 55 = .ok (.getfield 28, 3) := by decide +kernel
theorem dX1_readBlock_58 : decode cX1_readBlock 58 = .ok (.iconst 0, 1) := by decide +kernel
theorem dX1_readBlock_59 : decode cX1_readBlock 59 = .ok (.dup2, 1) := by decide +kernel
theorem dX1_readBlock_60 : decode cX1_readBlock 60 = .ok (.iaload, 1) := by decide +kernel
theorem dX1_readBlock_61 : decode cX1_readBlock 61 = .ok (.iconst 1, 1) := by decide +kernel
theorem dX1_readBlock_62 : decode cX1_readBlock 62 = .ok (.iadd, 1) := by decide +kernel
theorem dX1_readBlock_63 : decode cX1_readBlock 63 = .ok (.iastore, 1) := by decide +kernel
theorem dX1_readBlock_64 : decode cX1_readBlock 64 = .ok (.aload_n 0, 1) := by decide +kernel
theorem dX1_readBlock_65 : decode cX1_readBlock 65 = .ok (.iload_n 1, 1) := by decide +kernel
theorem dX1_readBlock_66 : decode cX1_readBlock 66 = .ok (.invokevirtual 116, 3) := by decide +kernel
theorem dX1_readBlock_69 : decode cX1_readBlock 69 = .ok (.ireturn, 1) := by decide +kernel
set_option maxRecDepth 20000 in
theorem ggX1_destageStripe_X2_isDirtyOf : GoodIn wsX1_destageStripe wsX2_isDirtyOf := goodIn_r _ [11, 12, 13, 14, 15, 16, 41, 42, 43, 44, 45, 46, 47, 48, 49] (by decide +kernel) (by decide +kernel)
set_option maxRecDepth 20000 in
theorem gX1_destageStripe_X2_isDirtyOf : GoodIn wsX1_destageStripe (wsV RX1 119 RX2 yX2_isDirtyOf wsX2_isDirtyOf) := goodIn_app (goodIn_of _ (by decide +kernel)) ggX1_destageStripe_X2_isDirtyOf
set_option maxRecDepth 20000 in
theorem ggX1_destageStripe_X1_putOnDisk : GoodIn wsX1_destageStripe wsX1_putOnDisk := goodIn_r _ [21, 22, 23, 24, 15, 25, 34, 35, 36, 37, 38, 39, 40] (by decide +kernel) (by decide +kernel)
set_option maxRecDepth 20000 in
theorem gX1_destageStripe_X1_putOnDisk : GoodIn wsX1_destageStripe (wsV RX1 99 RX1 yX1_putOnDisk wsX1_putOnDisk) := goodIn_app (goodIn_of _ (by decide +kernel)) ggX1_destageStripe_X1_putOnDisk
set_option maxRecDepth 20000 in
theorem ggX1_destageStripe_X1_countWrittenTogether : GoodIn wsX1_destageStripe wsX1_countWrittenTogether := goodIn_r _ [29, 6, 30, 15, 31, 32, 33, 34, 35, 36, 37, 38, 39, 40] (by decide +kernel) (by decide +kernel)
set_option maxRecDepth 20000 in
theorem gX1_destageStripe_X1_countWrittenTogether : GoodIn wsX1_destageStripe (wsV RX1 103 RX1 yX1_countWrittenTogether wsX1_countWrittenTogether) := goodIn_app (goodIn_of _ (by decide +kernel)) ggX1_destageStripe_X1_countWrittenTogether
theorem dX1_destageStripe_0 : decode cX1_destageStripe 0 = .ok (.iconst 0, 1) := by decide +kernel
theorem dX1_destageStripe_1 : decode cX1_destageStripe 1 = .ok (.istore_n 2, 1) := by decide +kernel
theorem dX1_destageStripe_2 : decode cX1_destageStripe 2 = .ok (.iconst 0, 1) := by decide +kernel
theorem dX1_destageStripe_3 : decode cX1_destageStripe 3 = .ok (.istore_n 3, 1) := by decide +kernel
theorem dX1_destageStripe_4 : decode cX1_destageStripe 4 = .ok (.iload_n 3, 1) := by decide +kernel
theorem dX1_destageStripe_5 : decode cX1_destageStripe 5 = .ok (.bipush 12, 2) := by decide +kernel
theorem dX1_destageStripe_7 : decode cX1_destageStripe 7 = .ok (.if_icmp .ge 65, 3) := by decide +kernel
theorem dX1_destageStripe_10 : decode cX1_destageStripe 10 = .ok (.aload_n 0, 1) := by decide +kernel
theorem dX1_destageStripe_11 : decode cX1_destageStripe 11 = .ok (.getfield 12, 3) := by decide +kernel
theorem dX1_destageStripe_14 : decode cX1_destageStripe 14 = .ok (.iload_n 3, 1) := by decide +kernel
theorem dX1_destageStripe_15 : decode cX1_destageStripe 15 = .ok (.iload_n 1, 1) := by decide +kernel
theorem dX1_destageStripe_16 : decode cX1_destageStripe 16 = .ok (.invokevirtual 119, 3) := by decide +kernel
theorem dX1_destageStripe_19 : decode cX1_destageStripe 19 = .ok (.ifCond .eq 47, 3) := by decide +kernel
theorem dX1_destageStripe_22 : decode cX1_destageStripe 22 = .ok (.aload_n 0, 1) := by decide +kernel
theorem dX1_destageStripe_23 : decode cX1_destageStripe 23 = .ok (.aload_n 0, 1) := by decide +kernel
theorem dX1_destageStripe_24 : decode cX1_destageStripe 24 = .ok (.getfield 12, 3) := by decide +kernel
theorem dX1_destageStripe_27 : decode cX1_destageStripe 27 = .ok (.getfield 123, 3) := by decide +kernel
theorem dX1_destageStripe_30 : decode cX1_destageStripe 30 = .ok (.iload_n 3, 1) := by decide +kernel
theorem dX1_destageStripe_31 : decode cX1_destageStripe 31 = .ok (.iaload, 1) := by decide +kernel
theorem dX1_destageStripe_32 : decode cX1_destageStripe 32 = .ok (.aload_n 0, 1) := by decide +kernel
theorem dX1_destageStripe_33 : decode cX1_destageStripe 33 = .ok (.getfield 12, 3) := by decide +kernel
theorem dX1_destageStripe_36 : decode cX1_destageStripe 36 = .ok (.getfield 113, 3) := by decide +kernel
theorem dX1_destageStripe_39 : decode cX1_destageStripe 39 = .ok (.iload_n 3, 1) := by decide +kernel
theorem dX1_destageStripe_40 : decode cX1_destageStripe 40 = .ok (.iaload, 1) := by decide +kernel
theorem dX1_destageStripe_41 : decode cX1_destageStripe 41 = .ok (.aload_n 0, 1) := by decide +kernel
theorem dX1_destageStripe_42 : decode cX1_destageStripe 42 = .ok (.getfield 12, 3) := by decide +kernel
theorem dX1_destageStripe_45 : decode cX1_destageStripe 45 = .ok (.getfield 126, 3) := by decide +kernel
theorem dX1_destageStripe_48 : decode cX1_destageStripe 48 = .ok (.iload_n 3, 1) := by decide +kernel
theorem dX1_destageStripe_49 : decode cX1_destageStripe 49 = .ok (.iaload, 1) := by decide +kernel
theorem dX1_destageStripe_50 : decode cX1_destageStripe 50 = .ok (.invokevirtual 99, 3) := by decide +kernel
theorem dX1_destageStripe_53 : decode cX1_destageStripe 53 = .ok (.aload_n 0, 1) := by decide +kernel
theorem dX1_destageStripe_54 : decode cX1_destageStripe 54 = .ok (.getfield 12, 3) := by decide +kernel
theorem dX1_destageStripe_57 : decode cX1_destageStripe 57 = .ok (.getfield 129, 3) := by decide +kernel
theorem dX1_destageStripe_60 : decode cX1_destageStripe 60 = .ok (.iload_n 3, 1) := by decide +kernel
theorem dX1_destageStripe_61 : decode cX1_destageStripe 61 = .ok (.iconst 0, 1) := by decide +kernel
theorem dX1_destageStripe_62 : decode cX1_destageStripe 62 = .ok (.bastore, 1) := by decide +kernel
theorem dX1_destageStripe_63 : decode cX1_destageStripe 63 = .ok (.iinc 2 1, 3) := by decide +kernel
theorem dX1_destageStripe_66 : decode cX1_destageStripe 66 = .ok (.iinc 3 1, 3) := by decide +kernel
theorem dX1_destageStripe_69 : decode cX1_destageStripe 69 = .ok (.goto (-65), 3) := by decide +kernel
theorem dX1_destageStripe_72 : decode cX1_destageStripe 72 = .ok (.iload_n 2, 1) := by decide +kernel
theorem dX1_destageStripe_73 : decode cX1_destageStripe 73 = .ok (.ifCond .le 30, 3) := by decide +kernel
theorem dX1_destageStripe_76 : decode cX1_destageStripe 76 = .ok (.aload_n 0, 1) := by decide +kernel
theorem dX1_destageStripe_77 : decode cX1_destageStripe 77 = .ok (.iload_n 2, 1) := by decide +kernel
theorem dX1_destageStripe_78 : decode cX1_destageStripe 78 = .ok (.invokevirtual 103, 3) := by decide +kernel
theorem dX1_destageStripe_81 : decode cX1_destageStripe 81 = .ok (.aload_n 0, 1) := by decide +kernel
theorem dX1_destageStripe_82 : decode cX1_destageStripe 82 = .ok (.getfield 28, 3) := by decide +kernel
theorem dX1_destageStripe_85 : decode cX1_destageStripe 85 = .ok (.bipush 7, 2) := by decide +kernel
theorem dX1_destageStripe_87 : decode cX1_destageStripe 87 = .ok (.dup2, 1) := by decide +kernel
theorem dX1_destageStripe_88 : decode cX1_destageStripe 88 = .ok (.iaload, 1) := by decide +kernel
theorem dX1_destageStripe_89 : decode cX1_destageStripe 89 = .ok (.iconst 1, 1) := by decide +kernel
theorem dX1_destageStripe_90 : decode cX1_destageStripe 90 = .ok (.iadd, 1) := by decide +kernel
theorem dX1_destageStripe_91 : decode cX1_destageStripe 91 = .ok (.iastore, 1) := by decide +kernel
theorem dX1_destageStripe_92 : decode cX1_destageStripe 92 = .ok (.aload_n 0, 1) := by decide +kernel
theorem dX1_destageStripe_93 : decode cX1_destageStripe 93 = .ok (.getfield 28, 3) := by decide +kernel
theorem dX1_destageStripe_96 : decode cX1_destageStripe 96 = .ok (.bipush 8, 2) := by decide +kernel
theorem dX1_destageStripe_98 : decode cX1_destageStripe 98 = .ok (.dup2, 1) := by decide +kernel
theorem dX1_destageStripe_99 : decode cX1_destageStripe 99 = .ok (.iaload, 1) := by decide +kernel
theorem dX1_destageStripe_100 : decode cX1_destageStripe 100 = .ok (.iload_n 2, 1) := by decide +kernel
theorem dX1_destageStripe_101 : decode cX1_destageStripe 101 = .ok (.iadd, 1) := by decide +kernel
theorem dX1_destageStripe_102 : decode cX1_destageStripe 102 = .ok (.iastore, 1) := by decide +kernel
theorem dX1_destageStripe_103 : decode cX1_destageStripe 103 = .ok (.iload_n 2, 1) := by decide +kernel
theorem dX1_destageStripe_104 : decode cX1_destageStripe 104 = .ok (.ireturn, 1) := by decide +kernel
set_option maxRecDepth 20000 in
theorem ggX1_destageStripes_X1_destageStripe : GoodIn wsX1_destageStripes wsX1_destageStripe := goodIn_r _ [5, 6, 7, 8, 9, 10, 11, 12, 13, 14, 15, 16, 17, 18, 19, 20, 21, 22, 23, 24, 4, 25, 26, 27, 28, 29, 30, 31, 32, 33, 34, 35, 36, 37, 38, 39, 40, 41, 42, 43, 44, 45, 46, 47, 48, 49, 50, 51, 52, 53] (by decide +kernel) (by decide +kernel)
set_option maxRecDepth 20000 in
theorem gX1_destageStripes_X1_destageStripe : GoodIn wsX1_destageStripes (wsV RX1 92 RX1 yX1_destageStripe wsX1_destageStripe) := goodIn_app (goodIn_of _ (by decide +kernel)) ggX1_destageStripes_X1_destageStripe
theorem dX1_destageStripes_0 : decode cX1_destageStripes 0 = .ok (.iconst 0, 1) := by decide +kernel
theorem dX1_destageStripes_1 : decode cX1_destageStripes 1 = .ok (.istore_n 1, 1) := by decide +kernel
theorem dX1_destageStripes_2 : decode cX1_destageStripes 2 = .ok (.iconst 0, 1) := by decide +kernel
theorem dX1_destageStripes_3 : decode cX1_destageStripes 3 = .ok (.istore_n 2, 1) := by decide +kernel
theorem dX1_destageStripes_4 : decode cX1_destageStripes 4 = .ok (.iload_n 2, 1) := by decide +kernel
theorem dX1_destageStripes_5 : decode cX1_destageStripes 5 = .ok (.bipush 16, 2) := by decide +kernel
theorem dX1_destageStripes_7 : decode cX1_destageStripes 7 = .ok (.if_icmp .ge 17, 3) := by decide +kernel
theorem dX1_destageStripes_10 : decode cX1_destageStripes 10 = .ok (.iload_n 1, 1) := by decide +kernel
theorem dX1_destageStripes_11 : decode cX1_destageStripes 11 = .ok (.aload_n 0, 1) := by decide +kernel
theorem dX1_destageStripes_12 : decode cX1_destageStripes 12 = .ok (.iload_n 2, 1) := by decide +kernel
theorem dX1_destageStripes_13 : decode cX1_destageStripes 13 = .ok (.invokevirtual 92, 3) := by decide +kernel
theorem dX1_destageStripes_16 : decode cX1_destageStripes 16 = .ok (.iadd, 1) := by decide +kernel
theorem dX1_destageStripes_17 : decode cX1_destageStripes 17 = .ok (.istore_n 1, 1) := by decide +kernel
theorem dX1_destageStripes_18 : decode cX1_destageStripes 18 = .ok (.iinc 2 1, 3) := by decide +kernel
theorem dX1_destageStripes_21 : decode cX1_destageStripes 21 = .ok (.goto (-17), 3) := by decide +kernel
theorem dX1_destageStripes_24 : decode cX1_destageStripes 24 = .ok (.iload_n 1, 1) := by decide +kernel
theorem dX1_destageStripes_25 : decode cX1_destageStripes 25 = .ok (.ireturn, 1) := by decide +kernel
set_option maxRecDepth 20000 in
theorem ggX1_letPass_X1_canDestage : GoodIn wsX1_letPass wsX1_canDestage := goodIn_r _ [7, 8, 1, 9, 41, 42, 43, 44, 45, 46, 47, 48, 49, 50, 51, 52, 53, 54, 55, 56] (by decide +kernel) (by decide +kernel)
set_option maxRecDepth 20000 in
theorem gX1_letPass_X1_canDestage : GoodIn wsX1_letPass (wsV RX1 133 RX1 yX1_canDestage wsX1_canDestage) := goodIn_app (goodIn_of _ (by decide +kernel)) ggX1_letPass_X1_canDestage
set_option maxRecDepth 20000 in
theorem ggX1_letPass_X2_load : GoodIn wsX1_letPass wsX2_load := goodIn_r _ [14, 15, 16, 17, 18, 19, 20, 48, 49, 50, 51, 52, 53, 54, 55, 56] (by decide +kernel) (by decide +kernel)
set_option maxRecDepth 20000 in
theorem gX1_letPass_X2_load : GoodIn wsX1_letPass (wsV RX1 136 RX2 yX2_load wsX2_load) := goodIn_app (goodIn_of _ (by decide +kernel)) ggX1_letPass_X2_load
set_option maxRecDepth 20000 in
theorem ggX1_letPass_X2_drain : GoodIn wsX1_letPass wsX2_drain := goodIn_r _ [24, 15, 25, 26, 19, 27, 28, 29, 30, 13, 31, 32, 33, 34, 35, 36, 37, 38, 39, 40, 48, 49, 50, 51, 52, 53, 54, 55, 56] (by decide +kernel) (by decide +kernel)
set_option maxRecDepth 20000 in
theorem gX1_letPass_X2_drain : GoodIn wsX1_letPass (wsV RX1 139 RX2 yX2_drain wsX2_drain) := goodIn_app (goodIn_of _ (by decide +kernel)) ggX1_letPass_X2_drain
theorem dX1_letPass_0 : decode cX1_letPass 0 = .ok (.iconst 0, 1) := by decide +kernel
theorem dX1_letPass_1 : decode cX1_letPass 1 = .ok (.istore_n 2, 1) := by decide +kernel
theorem dX1_letPass_2 : decode cX1_letPass 2 = .ok (.iload_n 2, 1) := by decide +kernel
theorem dX1_letPass_3 : decode cX1_letPass 3 = .ok (.iload_n 1, 1) := by decide +kernel
theorem dX1_letPass_4 : decode cX1_letPass 4 = .ok (.if_icmp .ge 43, 3) := by decide +kernel
theorem dX1_letPass_7 : decode cX1_letPass 7 = .ok (.aload_n 0, 1) := by decide +kernel
theorem dX1_letPass_8 : decode cX1_letPass 8 = .ok (.invokevirtual 133, 3) := by decide +kernel
theorem dX1_letPass_11 : decode cX1_letPass 11 = .ok (.ifCond .eq 13, 3) := by decide +kernel
theorem dX1_letPass_14 : decode cX1_letPass 14 = .ok (.aload_n 0, 1) := by decide +kernel
theorem dX1_letPass_15 : decode cX1_letPass 15 = .ok (.getfield 12, 3) := by decide +kernel
theorem dX1_letPass_18 : decode cX1_letPass 18 = .ok (.invokevirtual 136, 3) := by decide +kernel
theorem dX1_letPass_21 : decode cX1_letPass 21 = .ok (.goto 20, 3) := by decide +kernel
theorem dX1_letPass_24 : decode cX1_letPass 24 = .ok (.aload_n 0, 1) := by decide +kernel
theorem dX1_letPass_25 : decode cX1_letPass 25 = .ok (.getfield 28, 3) := by decide +kernel
theorem dX1_letPass_28 : decode cX1_letPass 28 = .ok (.bipush 6, 2) := by decide +kernel
theorem dX1_letPass_30 : decode cX1_letPass 30 = .ok (.dup2, 1) := by decide +kernel
theorem dX1_letPass_31 : decode cX1_letPass 31 = .ok (.iaload, 1) := by decide +kernel
theorem dX1_letPass_32 : decode cX1_letPass 32 = .ok (.aload_n 0, 1) := by decide +kernel
theorem dX1_letPass_33 : decode cX1_letPass 33 = .ok (.getfield 12, 3) := by decide +kernel
theorem dX1_letPass_36 : decode cX1_letPass 36 = .ok (.invokevirtual 139, 3) := by decide +kernel
theorem dX1_letPass_39 : decode cX1_letPass 39 = .ok (.iadd, 1) := by decide +kernel
theorem dX1_letPass_40 : decode cX1_letPass 40 = .ok (.iastore, 1) := by decide +kernel
theorem dX1_letPass_41 : decode cX1_letPass 41 = .ok (.iinc 2 1, 3) := by decide +kernel
theorem dX1_letPass_44 : decode cX1_letPass 44 = .ok (.goto (-42), 3) := by decide +kernel
theorem dX1_letPass_47 : decode cX1_letPass 47 = .ok (.return_, 1) := by decide +kernel
set_option maxRecDepth 20000 in
theorem ggX1_switchPower_X1_destageStripes : GoodIn wsX1_switchPower wsX1_destageStripes := goodIn_r _ [9, 10, 11, 12, 8, 13, 2, 14, 15, 16, 17, 18, 19, 20, 21, 22, 23, 24, 25, 26, 27, 28, 29, 30, 31, 32, 33, 34, 35, 36, 37, 38, 39, 40, 41, 42, 43, 44, 45, 46, 47, 48, 49, 50, 51, 52, 53, 54, 55, 56, 57, 58, 59, 60] (by decide +kernel) (by decide +kernel)
set_option maxRecDepth 20000 in
theorem gX1_switchPower_X1_destageStripes : GoodIn wsX1_switchPower (wsV RX1 143 RX1 yX1_destageStripes wsX1_destageStripes) := goodIn_app (goodIn_of _ (by decide +kernel)) ggX1_switchPower_X1_destageStripes
theorem dX1_switchPower_0 : decode cX1_switchPower 0 = .ok (.iload_n 1, 1) := by decide +kernel
theorem dX1_switchPower_1 : decode cX1_switchPower 1 = .ok (.ifCond .eq 14, 3) := by decide +kernel
theorem dX1_switchPower_4 : decode cX1_switchPower 4 = .ok (.aload_n 0, 1) := by decide +kernel
theorem dX1_switchPower_5 : decode cX1_switchPower 5 = .ok (.getfield 31, 3) := by decide +kernel
theorem dX1_switchPower_8 : decode cX1_switchPower 8 = .ok (.ifCond .ne 7, 3) := by decide +kernel
theorem dX1_switchPower_11 : decode cX1_switchPower 11 = .ok (.iconst 1, 1) := by decide +kernel
theorem dX1_switchPower_12 : decode cX1_switchPower 12 = .ok (.goto 4, 3) := by decide +kernel
theorem dX1_switchPower_15 : decode cX1_switchPower 15 = .ok (.iconst 0, 1) := by decide +kernel
theorem dX1_switchPower_16 : decode cX1_switchPower 16 = .ok (.istore_n 2, 1) := by decide +kernel
theorem dX1_switchPower_17 : decode cX1_switchPower 17 = .ok (.aload_n 0, 1) := by decide +kernel
theorem dX1_switchPower_18 : decode cX1_switchPower 18 = .ok (.iload_n 1, 1) := by decide +kernel
theorem dX1_switchPower_19 : decode cX1_switchPower 19 = .ok (.putfield 31, 3) := by decide +kernel
theorem dX1_switchPower_22 : decode cX1_switchPower 22 = .ok (.iload_n 2, 1) := by decide +kernel
theorem dX1_switchPower_23 : decode cX1_switchPower 23 = .ok (.ifCond .eq 30, 3) := by decide +kernel
theorem dX1_switchPower_26 : decode cX1_switchPower 26 = .ok (.aload_n 0, 1) := by decide +kernel
theorem dX1_switchPower_27 : decode cX1_switchPower 27 = .ok (.getfield 12, 3) := by decide +kernel
theorem dX1_switchPower_30 : decode cX1_switchPower 30 = .ok (.getfield 49, 3) := by decide +kernel
theorem dX1_switchPower_33 : decode cX1_switchPower 33 = .ok (.ifCond .eq 20, 3) := by decide +kernel
theorem dX1_switchPower_36 : decode cX1_switchPower 36 = .ok (.aload_n 0, 1) := by decide +kernel
theorem dX1_switchPower_37 : decode cX1_switchPower 37 = .ok (.getfield 12, 3) := by decide +kernel
theorem dX1_switchPower_40 : decode cX1_switchPower 40 = .ok (.getfield 52, 3) := by decide +kernel
theorem dX1_switchPower_43 : decode cX1_switchPower 43 = .ok (.bipush 20, 2) := by decide +kernel
theorem dX1_switchPower_45 : decode cX1_switchPower 45 = .ok (.if_icmp .ge 8, 3) := by decide +kernel
theorem dX1_switchPower_48 : decode cX1_switchPower 48 = .ok (.aload_n 0, 1) := by decide +kernel
theorem dX1_switchPower_49 : decode cX1_switchPower 49 = .ok (.invokevirtual 143, 3) := by decide +kernel
theorem dX1_switchPower_52 : decode cX1_switchPower 52 = .ok (.ireturn, 1) := by decide +kernel
theorem dX1_switchPower_53 : decode cX1_switchPower 53 = .ok (.iconst 0, 1) := by decide +kernel
theorem dX1_switchPower_54 : decode cX1_switchPower 54 = .ok (.ireturn, 1) := by decide +kernel
set_option maxRecDepth 20000 in
theorem ggX1_placeStick_X1_emptyOutdatedLines : GoodIn wsX1_placeStick wsX1_emptyOutdatedLines := goodIn_r _ [7, 1, 8, 9, 10, 11, 12, 13, 14, 15, 16, 17, 18, 19, 20, 21, 22, 23, 24, 25, 26, 27, 28, 29, 30, 31, 32, 33, 34, 35, 36, 37, 38] (by decide +kernel) (by decide +kernel)
set_option maxRecDepth 20000 in
theorem gX1_placeStick_X1_emptyOutdatedLines : GoodIn wsX1_placeStick (wsV RX1 146 RX1 yX1_emptyOutdatedLines wsX1_emptyOutdatedLines) := goodIn_app (goodIn_of _ (by decide +kernel)) ggX1_placeStick_X1_emptyOutdatedLines
theorem dX1_placeStick_0 : decode cX1_placeStick 0 = .ok (.iload_n 1, 1) := by decide +kernel
theorem dX1_placeStick_1 : decode cX1_placeStick 1 = .ok (.ifCond .eq 17, 3) := by decide +kernel
theorem dX1_placeStick_4 : decode cX1_placeStick 4 = .ok (.aload_n 0, 1) := by decide +kernel
theorem dX1_placeStick_5 : decode cX1_placeStick 5 = .ok (.getfield 12, 3) := by decide +kernel
theorem dX1_placeStick_8 : decode cX1_placeStick 8 = .ok (.getfield 49, 3) := by decide +kernel
theorem dX1_placeStick_11 : decode cX1_placeStick 11 = .ok (.ifCond .ne 7, 3) := by decide +kernel
theorem dX1_placeStick_14 : decode cX1_placeStick 14 = .ok (.iconst 1, 1) := by decide +kernel
theorem dX1_placeStick_15 : decode cX1_placeStick 15 = .ok (.goto 4, 3) := by decide +kernel
theorem dX1_placeStick_18 : decode cX1_placeStick 18 = .ok (.iconst 0, 1) := by decide +kernel
theorem dX1_placeStick_19 : decode cX1_placeStick 19 = .ok (.istore_n 2, 1) := by decide +kernel
theorem dX1_placeStick_20 : decode cX1_placeStick 20 = .ok (.aload_n 0, 1) := by decide +kernel
theorem dX1_placeStick_21 : decode cX1_placeStick 21 = .ok (.getfield 12, 3) := by decide +kernel
theorem dX1_placeStick_24 : decode cX1_placeStick 24 = .ok (.iload_n 1, 1) := by decide +kernel
theorem dX1_placeStick_25 : decode cX1_placeStick 25 = .ok (.putfield 49, 3) := by decide +kernel
theorem dX1_placeStick_28 : decode cX1_placeStick 28 = .ok (.iload_n 2, 1) := by decide +kernel
theorem dX1_placeStick_29 : decode cX1_placeStick 29 = .ok (.ifCond .eq 10, 3) := by decide +kernel
theorem dX1_placeStick_32 : decode cX1_placeStick 32 = .ok (.aload_n 0, 1) := by decide +kernel
theorem dX1_placeStick_33 : decode cX1_placeStick 33 = .ok (.invokevirtual 146, 3) := by decide +kernel
theorem dX1_placeStick_36 : decode cX1_placeStick 36 = .ok (.goto 4, 3) := by decide +kernel
theorem dX1_placeStick_39 : decode cX1_placeStick 39 = .ok (.iconst 0, 1) := by decide +kernel
theorem dX1_placeStick_40 : decode cX1_placeStick 40 = .ok (.ireturn, 1) := by decide +kernel
set_option maxRecDepth 20000 in
theorem ggX1_emptyOutdatedLines_X4_isBlock : GoodIn wsX1_emptyOutdatedLines wsX4_isBlock := goodIn_r _ [7] (by decide +kernel) (by decide +kernel)
set_option maxRecDepth 20000 in
theorem gX1_emptyOutdatedLines_X4_isBlock_n55 : GoodIn wsX1_emptyOutdatedLines (wsX4_isBlock) := ggX1_emptyOutdatedLines_X4_isBlock
set_option maxRecDepth 20000 in
theorem ggX1_emptyOutdatedLines_X2_empty : GoodIn wsX1_emptyOutdatedLines wsX2_empty := goodIn_r _ [12, 13, 14, 15, 6, 16, 24, 25, 26, 27, 28, 29, 30, 31, 32] (by decide +kernel) (by decide +kernel)
set_option maxRecDepth 20000 in
theorem gX1_emptyOutdatedLines_X2_empty : GoodIn wsX1_emptyOutdatedLines (wsV RX1 149 RX2 yX2_empty wsX2_empty) := goodIn_app (goodIn_of _ (by decide +kernel)) ggX1_emptyOutdatedLines_X2_empty
theorem dX1_emptyOutdatedLines_0 : decode cX1_emptyOutdatedLines 0 = .ok (.iconst 0, 1) := by decide +kernel
theorem dX1_emptyOutdatedLines_1 : decode cX1_emptyOutdatedLines 1 = .ok (.istore_n 1, 1) := by decide +kernel
theorem dX1_emptyOutdatedLines_2 : decode cX1_emptyOutdatedLines 2 = .ok (.iconst 0, 1) := by decide +kernel
theorem dX1_emptyOutdatedLines_3 : decode cX1_emptyOutdatedLines 3 = .ok (.istore_n 2, 1) := by decide +kernel
theorem dX1_emptyOutdatedLines_4 : decode cX1_emptyOutdatedLines 4 = .ok (.iload_n 2, 1) := by decide +kernel
theorem dX1_emptyOutdatedLines_5 : decode cX1_emptyOutdatedLines 5 = .ok (.bipush 12, 2) := by decide +kernel
theorem dX1_emptyOutdatedLines_7 : decode cX1_emptyOutdatedLines 7 = .ok (.if_icmp .ge 55, 3) := by decide +kernel
theorem dX1_emptyOutdatedLines_10 : decode cX1_emptyOutdatedLines 10 = .ok (.aload_n 0, 1) := by decide +kernel
theorem dX1_emptyOutdatedLines_11 : decode cX1_emptyOutdatedLines 11 = .ok (.getfield 12, 3) := by decide +kernel
theorem dX1_emptyOutdatedLines_14 : decode cX1_emptyOutdatedLines 14 = .ok (.getfield 123, 3) := by decide +kernel
theorem dX1_emptyOutdatedLines_17 : decode cX1_emptyOutdatedLines 17 = .ok (.iload_n 2, 1) := by decide +kernel
theorem dX1_emptyOutdatedLines_18 : decode cX1_emptyOutdatedLines 18 = .ok (.iaload, 1) := by decide +kernel
theorem dX1_emptyOutdatedLines_19 : decode cX1_emptyOutdatedLines 19 = .ok (.istore_n 3, 1) := by decide +kernel
theorem dX1_emptyOutdatedLines_20 : decode cX1_emptyOutdatedLines 20 = .ok (.iload_n 3, 1) := by decide +kernel
theorem dX1_emptyOutdatedLines_21 : decode cX1_emptyOutdatedLines 21 = .ok (.invokestatic 55, 3) := by decide +kernel
theorem dX1_emptyOutdatedLines_24 : decode cX1_emptyOutdatedLines 24 = .ok (.ifCond .eq 32, 3) := by decide +kernel
theorem dX1_emptyOutdatedLines_27 : decode cX1_emptyOutdatedLines 27 = .ok (.aload_n 0, 1) := by decide +kernel
theorem dX1_emptyOutdatedLines_28 : decode cX1_emptyOutdatedLines 28 = .ok (.getfield 12, 3) := by decide +kernel
theorem dX1_emptyOutdatedLines_31 : decode cX1_emptyOutdatedLines 31 = .ok (.getfield 126, 3) := by decide +kernel
theorem dX1_emptyOutdatedLines_34 : decode cX1_emptyOutdatedLines 34 = .ok (.iload_n 2, 1) := by decide +kernel
theorem dX1_emptyOutdatedLines_35 : decode cX1_emptyOutdatedLines 35 = .ok (.iaload, 1) := by decide +kernel
theorem dX1_emptyOutdatedLines_36 : decode cX1_emptyOutdatedLines 36 = .ok (.aload_n 0, 1) := by decide +kernel
theorem dX1_emptyOutdatedLines_37 : decode cX1_emptyOutdatedLines 37 = .ok (.getfield 22, 3) := by decide +kernel
theorem dX1_emptyOutdatedLines_40 : decode cX1_emptyOutdatedLines 40 = .ok (.iload_n 3, 1) := by decide +kernel
theorem dX1_emptyOutdatedLines_41 : decode cX1_emptyOutdatedLines 41 = .ok (.iaload, 1) := by decide +kernel
theorem dX1_emptyOutdatedLines_42 : decode cX1_emptyOutdatedLines 42 = .ok (.if_icmp .ge 14, 3) := by decide +kernel
theorem dX1_emptyOutdatedLines_45 : decode cX1_emptyOutdatedLines 45 = .ok (.aload_n 0, 1) := by decide +kernel
theorem dX1_emptyOutdatedLines_46 : decode cX1_emptyOutdatedLines 46 = .ok (.getfield 12, 3) := by decide +kernel
theorem dX1_emptyOutdatedLines_49 : decode cX1_emptyOutdatedLines 49 = .ok (.iload_n 2, 1) := by decide +kernel
theorem dX1_emptyOutdatedLines_50 : decode cX1_emptyOutdatedLines 50 = .ok (.invokevirtual 149, 3) := by decide +kernel
theorem dX1_emptyOutdatedLines_53 : decode cX1_emptyOutdatedLines 53 = .ok (.iinc 1 1, 3) := by decide +kernel
theorem dX1_emptyOutdatedLines_56 : decode cX1_emptyOutdatedLines 56 = .ok (.iinc 2 1, 3) := by decide +kernel
theorem dX1_emptyOutdatedLines_59 : decode cX1_emptyOutdatedLines 59 = .ok (.goto (-55), 3) := by decide +kernel
theorem dX1_emptyOutdatedLines_62 : decode cX1_emptyOutdatedLines 62 = .ok (.iload_n 1, 1) := by decide +kernel
theorem dX1_emptyOutdatedLines_63 : decode cX1_emptyOutdatedLines 63 = .ok (.ireturn, 1) := by decide +kernel
set_option maxRecDepth 20000 in
theorem ggX1_finds_X4_isBlock : GoodIn wsX1_finds wsX4_isBlock := goodIn_r _ [7] (by decide +kernel) (by decide +kernel)
set_option maxRecDepth 20000 in
theorem gX1_finds_X4_isBlock_n55 : GoodIn wsX1_finds (wsX4_isBlock) := ggX1_finds_X4_isBlock
set_option maxRecDepth 20000 in
theorem ggX1_finds_X2_lineInReach : GoodIn wsX1_finds wsX2_lineInReach := goodIn_r _ [12, 13, 14, 15, 16, 11, 17, 18, 28, 29, 30, 31, 32, 33, 34, 35, 36] (by decide +kernel) (by decide +kernel)
set_option maxRecDepth 20000 in
theorem gX1_finds_X2_lineInReach : GoodIn wsX1_finds (wsV RX1 107 RX2 yX2_lineInReach wsX2_lineInReach) := goodIn_app (goodIn_of _ (by decide +kernel)) ggX1_finds_X2_lineInReach
set_option maxRecDepth 20000 in
theorem ggX1_finds_X4_isLine : GoodIn wsX1_finds wsX4_isLine := goodIn_r _ [20] (by decide +kernel) (by decide +kernel)
set_option maxRecDepth 20000 in
theorem gX1_finds_X4_isLine_n83 : GoodIn wsX1_finds (wsX4_isLine) := ggX1_finds_X4_isLine
theorem dX1_finds_0 : decode cX1_finds 0 = .ok (.iload_n 1, 1) := by decide +kernel
theorem dX1_finds_1 : decode cX1_finds 1 = .ok (.invokestatic 55, 3) := by decide +kernel
theorem dX1_finds_4 : decode cX1_finds 4 = .ok (.ifCond .ne 5, 3) := by decide +kernel
theorem dX1_finds_7 : decode cX1_finds 7 = .ok (.iconst 0, 1) := by decide +kernel
theorem dX1_finds_8 : decode cX1_finds 8 = .ok (.ireturn, 1) := by decide +kernel
theorem dX1_finds_9 : decode cX1_finds 9 = .ok (.aload_n 0, 1) := by decide +kernel
theorem dX1_finds_10 : decode cX1_finds 10 = .ok (.getfield 22, 3) := by decide +kernel
theorem dX1_finds_13 : decode cX1_finds 13 = .ok (.iload_n 1, 1) := by decide +kernel
theorem dX1_finds_14 : decode cX1_finds 14 = .ok (.iaload, 1) := by decide +kernel
theorem dX1_finds_15 : decode cX1_finds 15 = .ok (.aload_n 0, 1) := by decide +kernel
theorem dX1_finds_16 : decode cX1_finds 16 = .ok (.getfield 25, 3) := by decide +kernel
theorem dX1_finds_19 : decode cX1_finds 19 = .ok (.iload_n 1, 1) := by decide +kernel
theorem dX1_finds_20 : decode cX1_finds 20 = .ok (.iaload, 1) := by decide +kernel
theorem dX1_finds_21 : decode cX1_finds 21 = .ok (.if_icmp .ne 5, 3) := by decide +kernel
theorem dX1_finds_24 : decode cX1_finds 24 = .ok (.iconst 1, 1) := by decide +kernel
theorem dX1_finds_25 : decode cX1_finds 25 = .ok (.ireturn, 1) := by decide +kernel
theorem dX1_finds_26 : decode cX1_finds 26 = .ok (.aload_n 0, 1) := by decide +kernel
theorem dX1_finds_27 : decode cX1_finds 27 = .ok (.getfield 12, 3) := by decide +kernel
theorem dX1_finds_30 : decode cX1_finds 30 = .ok (.iload_n 1, 1) := by decide +kernel
theorem dX1_finds_31 : decode cX1_finds 31 = .ok (.invokevirtual 107, 3) := by decide +kernel
theorem dX1_finds_34 : decode cX1_finds 34 = .ok (.istore_n 2, 1) := by decide +kernel
theorem dX1_finds_35 : decode cX1_finds 35 = .ok (.iload_n 2, 1) := by decide +kernel
theorem dX1_finds_36 : decode cX1_finds 36 = .ok (.invokestatic 83, 3) := by decide +kernel
theorem dX1_finds_39 : decode cX1_finds 39 = .ok (.ifCond .eq 25, 3) := by decide +kernel
theorem dX1_finds_42 : decode cX1_finds 42 = .ok (.aload_n 0, 1) := by decide +kernel
theorem dX1_finds_43 : decode cX1_finds 43 = .ok (.getfield 12, 3) := by decide +kernel
theorem dX1_finds_46 : decode cX1_finds 46 = .ok (.getfield 126, 3) := by decide +kernel
theorem dX1_finds_49 : decode cX1_finds 49 = .ok (.iload_n 2, 1) := by decide +kernel
theorem dX1_finds_50 : decode cX1_finds 50 = .ok (.iaload, 1) := by decide +kernel
theorem dX1_finds_51 : decode cX1_finds 51 = .ok (.aload_n 0, 1) := by decide +kernel
theorem dX1_finds_52 : decode cX1_finds 52 = .ok (.getfield 25, 3) := by decide +kernel
theorem dX1_finds_55 : decode cX1_finds 55 = .ok (.iload_n 1, 1) := by decide +kernel
theorem dX1_finds_56 : decode cX1_finds 56 = .ok (.iaload, 1) := by decide +kernel
theorem dX1_finds_57 : decode cX1_finds 57 = .ok (.if_icmp .ne 7, 3) := by decide +kernel
theorem dX1_finds_60 : decode cX1_finds 60 = .ok (.iconst 1, 1) := by decide +kernel
theorem dX1_finds_61 : decode cX1_finds 61 = .ok (.goto 4, 3) := by decide +kernel
theorem dX1_finds_64 : decode cX1_finds 64 = .ok (.iconst 0, 1) := by decide +kernel
theorem dX1_finds_65 : decode cX1_finds 65 = .ok (.ireturn, 1) := by decide +kernel
set_option maxRecDepth 20000 in
theorem ggX1_operationsIfWritten_X1_gathers : GoodIn wsX1_operationsIfWritten wsX1_gathers := goodIn_r _ [6, 1, 7, 8, 47, 48, 49, 50, 51, 52, 53, 54, 55, 56, 57, 58, 59, 60, 61, 62] (by decide +kernel) (by decide +kernel)
set_option maxRecDepth 20000 in
theorem gX1_operationsIfWritten_X1_gathers : GoodIn wsX1_operationsIfWritten (wsV RX1 66 RX1 yX1_gathers wsX1_gathers) := goodIn_app (goodIn_of _ (by decide +kernel)) ggX1_operationsIfWritten_X1_gathers
set_option maxRecDepth 20000 in
theorem ggX1_operationsIfWritten_X4_operationsToWrite : GoodIn wsX1_operationsIfWritten wsX4_operationsToWrite := goodIn_r _ [11, 12, 13, 10, 14, 15, 16, 17] (by decide +kernel) (by decide +kernel)
set_option maxRecDepth 20000 in
theorem gX1_operationsIfWritten_X4_operationsToWrite_n152 : GoodIn wsX1_operationsIfWritten (wsX4_operationsToWrite) := ggX1_operationsIfWritten_X4_operationsToWrite
set_option maxRecDepth 20000 in
theorem ggX1_operationsIfWritten_X4_stripeOf : GoodIn wsX1_operationsIfWritten wsX4_stripeOf := goodIn_r _ [19] (by decide +kernel) (by decide +kernel)
set_option maxRecDepth 20000 in
theorem gX1_operationsIfWritten_X4_stripeOf_n77 : GoodIn wsX1_operationsIfWritten (wsX4_stripeOf) := ggX1_operationsIfWritten_X4_stripeOf
set_option maxRecDepth 20000 in
theorem ggX1_operationsIfWritten_X2_lineOf : GoodIn wsX1_operationsIfWritten wsX2_lineOf := goodIn_r _ [24, 25, 54, 55, 56, 57, 58, 59, 60, 61, 62] (by decide +kernel) (by decide +kernel)
set_option maxRecDepth 20000 in
theorem gX1_operationsIfWritten_X2_lineOf : GoodIn wsX1_operationsIfWritten (wsV RX1 80 RX2 yX2_lineOf wsX2_lineOf) := goodIn_app (goodIn_of _ (by decide +kernel)) ggX1_operationsIfWritten_X2_lineOf
set_option maxRecDepth 20000 in
theorem ggX1_operationsIfWritten_X4_isLine : GoodIn wsX1_operationsIfWritten wsX4_isLine := goodIn_r _ [27] (by decide +kernel) (by decide +kernel)
set_option maxRecDepth 20000 in
theorem gX1_operationsIfWritten_X4_isLine_n83 : GoodIn wsX1_operationsIfWritten (wsX4_isLine) := ggX1_operationsIfWritten_X4_isLine
set_option maxRecDepth 20000 in
theorem ggX1_operationsIfWritten_X2_freeLine : GoodIn wsX1_operationsIfWritten wsX2_freeLine := goodIn_r _ [31, 32, 25, 33, 54, 55, 56, 57, 58, 59, 60, 61, 62] (by decide +kernel) (by decide +kernel)
set_option maxRecDepth 20000 in
theorem gX1_operationsIfWritten_X2_freeLine : GoodIn wsX1_operationsIfWritten (wsV RX1 86 RX2 yX2_freeLine wsX2_freeLine) := goodIn_app (goodIn_of _ (by decide +kernel)) ggX1_operationsIfWritten_X2_freeLine
set_option maxRecDepth 20000 in
theorem ggX1_operationsIfWritten_X2_fullestStripe : GoodIn wsX1_operationsIfWritten wsX2_fullestStripe := goodIn_r _ [37, 38, 39, 40, 23, 41, 42, 43, 44, 45, 32, 25, 18, 10, 19, 54, 55, 56, 57, 58, 59, 60, 61, 62] (by decide +kernel) (by decide +kernel)
set_option maxRecDepth 20000 in
theorem gX1_operationsIfWritten_X2_fullestStripe : GoodIn wsX1_operationsIfWritten (wsV RX1 89 RX2 yX2_fullestStripe wsX2_fullestStripe) := goodIn_app (goodIn_of _ (by decide +kernel)) ggX1_operationsIfWritten_X2_fullestStripe
set_option maxRecDepth 20000 in
theorem ggX1_operationsIfWritten_X2_dirtyLinesOf : GoodIn wsX1_operationsIfWritten wsX2_dirtyLinesOf := goodIn_r _ [41, 42, 43, 44, 23, 45, 32, 25, 18, 10, 19, 54, 55, 56, 57, 58, 59, 60, 61, 62] (by decide +kernel) (by decide +kernel)
set_option maxRecDepth 20000 in
theorem gX1_operationsIfWritten_X2_dirtyLinesOf : GoodIn wsX1_operationsIfWritten (wsV RX1 155 RX2 yX2_dirtyLinesOf wsX2_dirtyLinesOf) := goodIn_app (goodIn_of _ (by decide +kernel)) ggX1_operationsIfWritten_X2_dirtyLinesOf
theorem dX1_operationsIfWritten_0 : decode cX1_operationsIfWritten 0 = .ok (.aload_n 0, 1) := by decide +kernel
theorem dX1_operationsIfWritten_1 : decode cX1_operationsIfWritten 1 = .ok (.invokevirtual 66, 3) := by decide +kernel
theorem dX1_operationsIfWritten_4 : decode cX1_operationsIfWritten 4 = .ok (.ifCond .ne 8, 3) := by decide +kernel
theorem dX1_operationsIfWritten_7 : decode cX1_operationsIfWritten 7 = .ok (.iconst 1, 1) := by decide +kernel
theorem dX1_operationsIfWritten_8 : decode cX1_operationsIfWritten 8 = .ok (.invokestatic 152, 3) := by decide +kernel
theorem dX1_operationsIfWritten_11 : decode cX1_operationsIfWritten 11 = .ok (.ireturn, 1) := by decide +kernel
theorem dX1_operationsIfWritten_12 : decode cX1_operationsIfWritten 12 = .ok (.iload_n 1, 1) := by decide +kernel
theorem dX1_operationsIfWritten_13 : decode cX1_operationsIfWritten 13 = .ok (.invokestatic 77, 3) := by decide +kernel
theorem dX1_operationsIfWritten_16 : decode cX1_operationsIfWritten 16 = .ok (.iconst 4, 1) := by decide +kernel
theorem dX1_operationsIfWritten_17 : decode cX1_operationsIfWritten 17 = .ok (.irem, 1) := by decide +kernel
theorem dX1_operationsIfWritten_18 : decode cX1_operationsIfWritten 18 = .ok (.istore_n 2, 1) := by decide +kernel
theorem dX1_operationsIfWritten_19 : decode cX1_operationsIfWritten 19 = .ok (.aload_n 0, 1) := by decide +kernel
theorem dX1_operationsIfWritten_20 : decode cX1_operationsIfWritten 20 = .ok (.getfield 12, 3) := by decide +kernel
theorem dX1_operationsIfWritten_23 : decode cX1_operationsIfWritten 23 = .ok (.iload_n 1, 1) := by decide +kernel
theorem dX1_operationsIfWritten_24 : decode cX1_operationsIfWritten 24 = .ok (.invokevirtual 80, 3) := by decide +kernel
theorem dX1_operationsIfWritten_27 : decode cX1_operationsIfWritten 27 = .ok (.invokestatic 83, 3) := by decide +kernel
theorem dX1_operationsIfWritten_30 : decode cX1_operationsIfWritten 30 = .ok (.ifCond .ne 17, 3) := by decide +kernel
theorem dX1_operationsIfWritten_33 : decode cX1_operationsIfWritten 33 = .ok (.aload_n 0, 1) := by decide +kernel
theorem dX1_operationsIfWritten_34 : decode cX1_operationsIfWritten 34 = .ok (.getfield 12, 3) := by decide +kernel
theorem dX1_operationsIfWritten_37 : decode cX1_operationsIfWritten 37 = .ok (.iload_n 2, 1) := by decide +kernel
theorem dX1_operationsIfWritten_38 : decode cX1_operationsIfWritten 38 = .ok (.invokevirtual 86, 3) := by decide +kernel
theorem dX1_operationsIfWritten_41 : decode cX1_operationsIfWritten 41 = .ok (.invokestatic 83, 3) := by decide +kernel
theorem dX1_operationsIfWritten_44 : decode cX1_operationsIfWritten 44 = .ok (.ifCond .eq 5, 3) := by decide +kernel
theorem dX1_operationsIfWritten_47 : decode cX1_operationsIfWritten 47 = .ok (.iconst 0, 1) := by decide +kernel
theorem dX1_operationsIfWritten_48 : decode cX1_operationsIfWritten 48 = .ok (.ireturn, 1) := by decide +kernel
theorem dX1_operationsIfWritten_49 : decode cX1_operationsIfWritten 49 = .ok (.aload_n 0, 1) := by decide +kernel
theorem dX1_operationsIfWritten_50 : decode cX1_operationsIfWritten 50 = .ok (.getfield 12, 3) := by decide +kernel
theorem dX1_operationsIfWritten_53 : decode cX1_operationsIfWritten 53 = .ok (.aload_n 0, 1) := by decide +kernel
theorem dX1_operationsIfWritten_54 : decode cX1_operationsIfWritten 54 = .ok (.getfield 12, 3) := by decide +kernel
theorem dX1_operationsIfWritten_57 : decode cX1_operationsIfWritten 57 = .ok (.iload_n 2, 1) := by decide +kernel
theorem dX1_operationsIfWritten_58 : decode cX1_operationsIfWritten 58 = .ok (.invokevirtual 89, 3) := by decide +kernel
theorem dX1_operationsIfWritten_61 : decode cX1_operationsIfWritten 61 = .ok (.invokevirtual 155, 3) := by decide +kernel
theorem dX1_operationsIfWritten_64 : decode cX1_operationsIfWritten 64 = .ok (.invokestatic 152, 3) := by decide +kernel
theorem dX1_operationsIfWritten_67 : decode cX1_operationsIfWritten 67 = .ok (.ireturn, 1) := by decide +kernel
set_option maxRecDepth 20000 in
theorem ggX1_operationsIfDestaged_X2_dirtyLinesOf : GoodIn wsX1_operationsIfDestaged wsX2_dirtyLinesOf := goodIn_r _ [6, 7, 8, 9, 5, 10, 11, 12, 13, 14, 15, 31, 32, 33, 34, 35, 36, 37, 38, 39] (by decide +kernel) (by decide +kernel)
set_option maxRecDepth 20000 in
theorem gX1_operationsIfDestaged_X2_dirtyLinesOf : GoodIn wsX1_operationsIfDestaged (wsV RX1 155 RX2 yX2_dirtyLinesOf wsX2_dirtyLinesOf) := goodIn_app (goodIn_of _ (by decide +kernel)) ggX1_operationsIfDestaged_X2_dirtyLinesOf
set_option maxRecDepth 20000 in
theorem ggX1_operationsIfDestaged_X4_operationsToWrite : GoodIn wsX1_operationsIfDestaged wsX4_operationsToWrite := goodIn_r _ [17, 18, 19, 14, 20, 21, 22, 23] (by decide +kernel) (by decide +kernel)
set_option maxRecDepth 20000 in
theorem gX1_operationsIfDestaged_X4_operationsToWrite_n152 : GoodIn wsX1_operationsIfDestaged (wsX4_operationsToWrite) := ggX1_operationsIfDestaged_X4_operationsToWrite
theorem dX1_operationsIfDestaged_0 : decode cX1_operationsIfDestaged 0 = .ok (.iconst 0, 1) := by decide +kernel
theorem dX1_operationsIfDestaged_1 : decode cX1_operationsIfDestaged 1 = .ok (.istore_n 1, 1) := by decide +kernel
theorem dX1_operationsIfDestaged_2 : decode cX1_operationsIfDestaged 2 = .ok (.iconst 0, 1) := by decide +kernel
theorem dX1_operationsIfDestaged_3 : decode cX1_operationsIfDestaged 3 = .ok (.istore_n 2, 1) := by decide +kernel
theorem dX1_operationsIfDestaged_4 : decode cX1_operationsIfDestaged 4 = .ok (.iload_n 2, 1) := by decide +kernel
theorem dX1_operationsIfDestaged_5 : decode cX1_operationsIfDestaged 5 = .ok (.bipush 16, 2) := by decide +kernel
theorem dX1_operationsIfDestaged_7 : decode cX1_operationsIfDestaged 7 = .ok (.if_icmp .ge 23, 3) := by decide +kernel
theorem dX1_operationsIfDestaged_10 : decode cX1_operationsIfDestaged 10 = .ok (.iload_n 1, 1) := by decide +kernel
theorem dX1_operationsIfDestaged_11 : decode cX1_operationsIfDestaged 11 = .ok (.aload_n 0, 1) := by decide +kernel
theorem dX1_operationsIfDestaged_12 : decode cX1_operationsIfDestaged 12 = .ok (.getfield 12, 3) := by decide +kernel
theorem dX1_operationsIfDestaged_15 : decode cX1_operationsIfDestaged 15 = .ok (.iload_n 2, 1) := by decide +kernel
theorem dX1_operationsIfDestaged_16 : decode cX1_operationsIfDestaged 16 = .ok (.invokevirtual 155, 3) := by decide +kernel
theorem dX1_operationsIfDestaged_19 : decode cX1_operationsIfDestaged 19 = .ok (.invokestatic 152, 3) := by decide +kernel
theorem dX1_operationsIfDestaged_22 : decode cX1_operationsIfDestaged 22 = .ok (.iadd, 1) := by decide +kernel
theorem dX1_operationsIfDestaged_23 : decode cX1_operationsIfDestaged 23 = .ok (.istore_n 1, 1) := by decide +kernel
theorem dX1_operationsIfDestaged_24 : decode cX1_operationsIfDestaged 24 = .ok (.iinc 2 1, 3) := by decide +kernel
theorem dX1_operationsIfDestaged_27 : decode cX1_operationsIfDestaged 27 = .ok (.goto (-23), 3) := by decide +kernel
theorem dX1_operationsIfDestaged_30 : decode cX1_operationsIfDestaged 30 = .ok (.iload_n 1, 1) := by decide +kernel
theorem dX1_operationsIfDestaged_31 : decode cX1_operationsIfDestaged 31 = .ok (.ireturn, 1) := by decide +kernel
theorem dX2_init_0 : decode cX2_init 0 = .ok (.aload_n 0, 1) := by decide +kernel
theorem dX2_init_1 : decode cX2_init 1 = .ok (.invokespecial 3, 3) := by decide +kernel
theorem dX2_init_4 : decode cX2_init 4 = .ok (.aload_n 0, 1) := by decide +kernel
theorem dX2_init_5 : decode cX2_init 5 = .ok (.bipush 12, 2) := by decide +kernel
theorem dX2_init_7 : decode cX2_init 7 = .ok (.newarray .int, 2) := by decide +kernel
theorem dX2_init_9 : decode cX2_init 9 = .ok (.putfield 9, 3) := by decide +kernel
theorem dX2_init_12 : decode cX2_init 12 = .ok (.aload_n 0, 1) := by decide +kernel
theorem dX2_init_13 : decode cX2_init 13 = .ok (.bipush 12, 2) := by decide +kernel
theorem dX2_init_15 : decode cX2_init 15 = .ok (.newarray .int, 2) := by decide +kernel
theorem dX2_init_17 : decode cX2_init 17 = .ok (.putfield 15, 3) := by decide +kernel
theorem dX2_init_20 : decode cX2_init 20 = .ok (.aload_n 0, 1) := by decide +kernel
theorem dX2_init_21 : decode cX2_init 21 = .ok (.bipush 12, 2) := by decide +kernel
theorem dX2_init_23 : decode cX2_init 23 = .ok (.newarray .int, 2) := by decide +kernel
theorem dX2_init_25 : decode cX2_init 25 = .ok (.putfield 18, 3) := by decide +kernel
theorem dX2_init_28 : decode cX2_init 28 = .ok (.aload_n 0, 1) := by decide +kernel
theorem dX2_init_29 : decode cX2_init 29 = .ok (.bipush 12, 2) := by decide +kernel
theorem dX2_init_31 : decode cX2_init 31 = .ok (.newarray .int, 2) := by decide +kernel
theorem dX2_init_33 : decode cX2_init 33 = .ok (.putfield 21, 3) := by decide +kernel
theorem dX2_init_36 : decode cX2_init 36 = .ok (.aload_n 0, 1) := by decide +kernel
theorem dX2_init_37 : decode cX2_init 37 = .ok (.bipush 12, 2) := by decide +kernel
theorem dX2_init_39 : decode cX2_init 39 = .ok (.newarray .boolean, 2) := by decide +kernel
theorem dX2_init_41 : decode cX2_init 41 = .ok (.putfield 24, 3) := by decide +kernel
theorem dX2_init_44 : decode cX2_init 44 = .ok (.aload_n 0, 1) := by decide +kernel
theorem dX2_init_45 : decode cX2_init 45 = .ok (.bipush 100, 2) := by decide +kernel
theorem dX2_init_47 : decode cX2_init 47 = .ok (.putfield 28, 3) := by decide +kernel
theorem dX2_init_50 : decode cX2_init 50 = .ok (.aload_n 0, 1) := by decide +kernel
theorem dX2_init_51 : decode cX2_init 51 = .ok (.bipush 100, 2) := by decide +kernel
theorem dX2_init_53 : decode cX2_init 53 = .ok (.putfield 32, 3) := by decide +kernel
theorem dX2_init_56 : decode cX2_init 56 = .ok (.aload_n 0, 1) := by decide +kernel
theorem dX2_init_57 : decode cX2_init 57 = .ok (.iconst 1, 1) := by decide +kernel
theorem dX2_init_58 : decode cX2_init 58 = .ok (.putfield 35, 3) := by decide +kernel
theorem dX2_init_61 : decode cX2_init 61 = .ok (.iconst 0, 1) := by decide +kernel
theorem dX2_init_62 : decode cX2_init 62 = .ok (.istore_n 1, 1) := by decide +kernel
theorem dX2_init_63 : decode cX2_init 63 = .ok (.iload_n 1, 1) := by decide +kernel
theorem dX2_init_64 : decode cX2_init 64 = .ok (.bipush 12, 2) := by decide +kernel
theorem dX2_init_66 : decode cX2_init 66 = .ok (.if_icmp .ge 16, 3) := by decide +kernel
theorem dX2_init_69 : decode cX2_init 69 = .ok (.aload_n 0, 1) := by decide +kernel
theorem dX2_init_70 : decode cX2_init 70 = .ok (.getfield 9, 3) := by decide +kernel
theorem dX2_init_73 : decode cX2_init 73 = .ok (.iload_n 1, 1) := by decide +kernel
theorem dX2_init_74 : decode cX2_init 74 = .ok (.iconst (-1), 1) := by decide +kernel
theorem dX2_init_75 : decode cX2_init 75 = .ok (.iastore, 1) := by decide +kernel
theorem dX2_init_76 : decode cX2_init 76 = .ok (.iinc 1 1, 3) := by decide +kernel
theorem dX2_init_79 : decode cX2_init 79 = .ok (.goto (-16), 3) := by decide +kernel
theorem dX2_init_82 : decode cX2_init 82 = .ok (.return_, 1) := by decide +kernel
theorem dX2_copyFrom_0 : decode cX2_copyFrom 0 = .ok (.aload_n 1, 1) := by decide +kernel
theorem dX2_copyFrom_1 : decode cX2_copyFrom 1 = .ok (.getfield 9, 3) := by decide +kernel
theorem dX2_copyFrom_4 : decode cX2_copyFrom 4 = .ok (.iconst 0, 1) := by decide +kernel
theorem dX2_copyFrom_5 : decode cX2_copyFrom 5 = .ok (.aload_n 0, 1) := by decide +kernel
theorem dX2_copyFrom_6 : decode cX2_copyFrom 6 = .ok (.getfield 9, 3) := by decide +kernel
theorem dX2_copyFrom_9 : decode cX2_copyFrom 9 = .ok (.iconst 0, 1) := by decide +kernel
theorem dX2_copyFrom_10 : decode cX2_copyFrom 10 = .ok (.bipush 12, 2) := by decide +kernel
theorem dX2_copyFrom_12 : decode cX2_copyFrom 12 = .ok (.invokestatic 39, 3) := by decide +kernel
theorem dX2_copyFrom_15 : decode cX2_copyFrom 15 = .ok (.aload_n 1, 1) := by decide +kernel
theorem dX2_copyFrom_16 : decode cX2_copyFrom 16 = .ok (.getfield 15, 3) := by decide +kernel
theorem dX2_copyFrom_19 : decode cX2_copyFrom 19 = .ok (.iconst 0, 1) := by decide +kernel
theorem dX2_copyFrom_20 : decode cX2_copyFrom 20 = .ok (.aload_n 0, 1) := by decide +kernel
theorem dX2_copyFrom_21 : decode cX2_copyFrom 21 = .ok (.getfield 15, 3) := by decide +kernel
theorem dX2_copyFrom_24 : decode cX2_copyFrom 24 = .ok (.iconst 0, 1) := by decide +kernel
theorem dX2_copyFrom_25 : decode cX2_copyFrom 25 = .ok (.bipush 12, 2) := by decide +kernel
theorem dX2_copyFrom_27 : decode cX2_copyFrom 27 = .ok (.invokestatic 39, 3) := by decide +kernel
theorem dX2_copyFrom_30 : decode cX2_copyFrom 30 = .ok (.aload_n 1, 1) := by decide +kernel
theorem dX2_copyFrom_31 : decode cX2_copyFrom 31 = .ok (.getfield 18, 3) := by decide +kernel
theorem dX2_copyFrom_34 : decode cX2_copyFrom 34 = .ok (.iconst 0, 1) := by decide +kernel
theorem dX2_copyFrom_35 : decode cX2_copyFrom 35 = .ok (.aload_n 0, 1) := by decide +kernel
theorem dX2_copyFrom_36 : decode cX2_copyFrom 36 = .ok (.getfield 18, 3) := by decide +kernel
theorem dX2_copyFrom_39 : decode cX2_copyFrom 39 = .ok (.iconst 0, 1) := by decide +kernel
theorem dX2_copyFrom_40 : decode cX2_copyFrom 40 = .ok (.bipush 12, 2) := by decide +kernel
theorem dX2_copyFrom_42 : decode cX2_copyFrom 42 = .ok (.invokestatic 39, 3) := by decide +kernel
theorem dX2_copyFrom_45 : decode cX2_copyFrom 45 = .ok (.aload_n 1, 1) := by decide +kernel
theorem dX2_copyFrom_46 : decode cX2_copyFrom 46 = .ok (.getfield 21, 3) := by decide +kernel
theorem dX2_copyFrom_49 : decode cX2_copyFrom 49 = .ok (.iconst 0, 1) := by decide +kernel
theorem dX2_copyFrom_50 : decode cX2_copyFrom 50 = .ok (.aload_n 0, 1) := by decide +kernel
theorem dX2_copyFrom_51 : decode cX2_copyFrom 51 = .ok (.getfield 21, 3) := by decide +kernel
theorem dX2_copyFrom_54 : decode cX2_copyFrom 54 = .ok (.iconst 0, 1) := by decide +kernel
theorem dX2_copyFrom_55 : decode cX2_copyFrom 55 = .ok (.bipush 12, 2) := by decide +kernel
theorem dX2_copyFrom_57 : decode cX2_copyFrom 57 = .ok (.invokestatic 39, 3) := by decide +kernel
theorem dX2_copyFrom_60 : decode cX2_copyFrom 60 = .ok (.iconst 0, 1) := by decide +kernel
theorem dX2_copyFrom_61 : decode cX2_copyFrom 61 = .ok (.istore_n 2, 1) := by decide +kernel
theorem dX2_copyFrom_62 : decode cX2_copyFrom 62 = .ok (.iload_n 2, 1) := by decide +kernel
theorem dX2_copyFrom_63 : decode cX2_copyFrom 63 = .ok (.bipush 12, 2) := by decide +kernel
theorem dX2_copyFrom_65 : decode cX2_copyFrom 65 = .ok (.if_icmp .ge 21, 3) := by decide +kernel
theorem dX2_copyFrom_68 : decode cX2_copyFrom 68 = .ok (.aload_n 0, 1) := by decide +kernel
theorem dX2_copyFrom_69 : decode cX2_copyFrom 69 = .ok (.getfield 24, 3) := by decide +kernel
theorem dX2_copyFrom_72 : decode cX2_copyFrom 72 = .ok (.iload_n 2, 1) := by decide +kernel
theorem dX2_copyFrom_73 : decode cX2_copyFrom 73 = .ok (.aload_n 1, 1) := by decide +kernel
theorem dX2_copyFrom_74 : decode cX2_copyFrom 74 = .ok (.getfield 24, 3) := by decide +kernel
theorem dX2_copyFrom_77 : decode cX2_copyFrom 77 = .ok (.iload_n 2, 1) := by decide +kernel
theorem dX2_copyFrom_78 : decode cX2_copyFrom 78 = .ok (.baload, 1) := by decide +kernel
theorem dX2_copyFrom_79 : decode cX2_copyFrom 79 = .ok (.bastore, 1) := by decide +kernel
theorem dX2_copyFrom_80 : decode cX2_copyFrom 80 = .ok (.iinc 2 1, 3) := by decide +kernel
theorem dX2_copyFrom_83 : decode cX2_copyFrom 83 = .ok (.goto (-21), 3) := by decide +kernel
theorem dX2_copyFrom_86 : decode cX2_copyFrom 86 = .ok (.aload_n 0, 1) := by decide +kernel
theorem dX2_copyFrom_87 : decode cX2_copyFrom 87 = .ok (.aload_n 1, 1) := by decide +kernel
theorem dX2_copyFrom_88 : decode cX2_copyFrom 88 = .ok (.getfield 45, 3) := by decide +kernel
theorem dX2_copyFrom_91 : decode cX2_copyFrom 91 = .ok (.putfield 45, 3) := by decide +kernel
theorem dX2_copyFrom_94 : decode cX2_copyFrom 94 = .ok (.aload_n 0, 1) := by decide +kernel
theorem dX2_copyFrom_95 : decode cX2_copyFrom 95 = .ok (.aload_n 1, 1) := by decide +kernel
theorem dX2_copyFrom_96 : decode cX2_copyFrom 96 = .ok (.getfield 28, 3) := by decide +kernel
theorem dX2_copyFrom_99 : decode cX2_copyFrom 99 = .ok (.putfield 28, 3) := by decide +kernel
theorem dX2_copyFrom_102 : decode cX2_copyFrom 102 = .ok (.aload_n 0, 1) := by decide +kernel
theorem dX2_copyFrom_103 : decode cX2_copyFrom 103 = .ok (.aload_n 1, 1) := by decide +kernel
theorem dX2_copyFrom_104 : decode cX2_copyFrom 104 = .ok (.getfield 32, 3) := by decide +kernel
theorem dX2_copyFrom_107 : decode cX2_copyFrom 107 = .ok (.putfield 32, 3) := by decide +kernel
theorem dX2_copyFrom_110 : decode cX2_copyFrom 110 = .ok (.aload_n 0, 1) := by decide +kernel
theorem dX2_copyFrom_111 : decode cX2_copyFrom 111 = .ok (.aload_n 1, 1) := by decide +kernel
theorem dX2_copyFrom_112 : decode cX2_copyFrom 112 = .ok (.getfield 35, 3) := by decide +kernel
theorem dX2_copyFrom_115 : decode cX2_copyFrom 115 = .ok (.putfield 35, 3) := by decide +kernel
theorem dX2_copyFrom_118 : decode cX2_copyFrom 118 = .ok (.return_, 1) := by decide +kernel
theorem dX2_lineOf_0 : decode cX2_lineOf 0 = .ok (.iconst 0, 1) := by decide +kernel
theorem dX2_lineOf_1 : decode cX2_lineOf 1 = .ok (.istore_n 2, 1) := by decide +kernel
theorem dX2_lineOf_2 : decode cX2_lineOf 2 = .ok (.iload_n 2, 1) := by decide +kernel
theorem dX2_lineOf_3 : decode cX2_lineOf 3 = .ok (.bipush 12, 2) := by decide +kernel
theorem dX2_lineOf_5 : decode cX2_lineOf 5 = .ok (.if_icmp .ge 21, 3) := by decide +kernel
theorem dX2_lineOf_8 : decode cX2_lineOf 8 = .ok (.aload_n 0, 1) := by decide +kernel
theorem dX2_lineOf_9 : decode cX2_lineOf 9 = .ok (.getfield 9, 3) := by decide +kernel
theorem dX2_lineOf_12 : decode cX2_lineOf 12 = .ok (.iload_n 2, 1) := by decide +kernel
theorem dX2_lineOf_13 : decode cX2_lineOf 13 = .ok (.iaload, 1) := by decide +kernel
theorem dX2_lineOf_14 : decode cX2_lineOf 14 = .ok (.iload_n 1, 1) := by decide +kernel
theorem dX2_lineOf_15 : decode cX2_lineOf 15 = .ok (.if_icmp .ne 5, 3) := by decide +kernel
theorem dX2_lineOf_18 : decode cX2_lineOf 18 = .ok (.iload_n 2, 1) := by decide +kernel
theorem dX2_lineOf_19 : decode cX2_lineOf 19 = .ok (.ireturn, 1) := by decide +kernel
theorem dX2_lineOf_20 : decode cX2_lineOf 20 = .ok (.iinc 2 1, 3) := by decide +kernel
theorem dX2_lineOf_23 : decode cX2_lineOf 23 = .ok (.goto (-21), 3) := by decide +kernel
theorem dX2_lineOf_26 : decode cX2_lineOf 26 = .ok (.iconst (-1), 1) := by decide +kernel
theorem dX2_lineOf_27 : decode cX2_lineOf 27 = .ok (.ireturn, 1) := by decide +kernel
set_option maxRecDepth 20000 in
theorem ggX2_lineInReach_X2_lineOf : GoodIn wsX2_lineInReach wsX2_lineOf := goodIn_r _ [6, 7, 8, 9, 10, 11, 12, 13, 14, 15, 16] (by decide +kernel) (by decide +kernel)
set_option maxRecDepth 20000 in
theorem gX2_lineInReach_X2_lineOf : GoodIn wsX2_lineInReach (wsV RX2 48 RX2 yX2_lineOf wsX2_lineOf) := goodIn_app (goodIn_of _ (by decide +kernel)) ggX2_lineInReach_X2_lineOf
theorem dX2_lineInReach_0 : decode cX2_lineInReach 0 = .ok (.aload_n 0, 1) := by decide +kernel
theorem dX2_lineInReach_1 : decode cX2_lineInReach 1 = .ok (.getfield 35, 3) := by decide +kernel
theorem dX2_lineInReach_4 : decode cX2_lineInReach 4 = .ok (.ifCond .eq 11, 3) := by decide +kernel
theorem dX2_lineInReach_7 : decode cX2_lineInReach 7 = .ok (.aload_n 0, 1) := by decide +kernel
theorem dX2_lineInReach_8 : decode cX2_lineInReach 8 = .ok (.iload_n 1, 1) := by decide +kernel
theorem dX2_lineInReach_9 : decode cX2_lineInReach 9 = .ok (.invokevirtual 48, 3) := by decide +kernel
theorem dX2_lineInReach_12 : decode cX2_lineInReach 12 = .ok (.goto 4, 3) := by decide +kernel
theorem dX2_lineInReach_15 : decode cX2_lineInReach 15 = .ok (.iconst (-1), 1) := by decide +kernel
theorem dX2_lineInReach_16 : decode cX2_lineInReach 16 = .ok (.ireturn, 1) := by decide +kernel
theorem dX2_freeLine_0 : decode cX2_freeLine 0 = .ok (.iconst (-1), 1) := by decide +kernel
theorem dX2_freeLine_1 : decode cX2_freeLine 1 = .ok (.istore_n 2, 1) := by decide +kernel
theorem dX2_freeLine_2 : decode cX2_freeLine 2 = .ok (.iconst 0, 1) := by decide +kernel
theorem dX2_freeLine_3 : decode cX2_freeLine 3 = .ok (.istore_n 3, 1) := by decide +kernel
theorem dX2_freeLine_4 : decode cX2_freeLine 4 = .ok (.iconst 0, 1) := by decide +kernel
theorem dX2_freeLine_5 : decode cX2_freeLine 5 = .ok (.istore 4, 2) := by decide +kernel
theorem dX2_freeLine_7 : decode cX2_freeLine 7 = .ok (.iload 4, 2) := by decide +kernel
theorem dX2_freeLine_9 : decode cX2_freeLine 9 = .ok (.bipush 12, 2) := by decide +kernel
theorem dX2_freeLine_11 : decode cX2_freeLine 11 = .ok (.if_icmp .ge 68, 3) := by decide +kernel
theorem dX2_freeLine_14 : decode cX2_freeLine 14 = .ok (.iload 4, 2) := by decide +kernel
theorem dX2_freeLine_16 : decode cX2_freeLine 16 = .ok (.iconst 3, 1) := by decide +kernel
theorem dX2_freeLine_17 : decode cX2_freeLine 17 = .ok (.idiv, 1) := by decide +kernel
theorem dX2_freeLine_18 : decode cX2_freeLine 18 = .ok (.iload_n 1, 1) := by decide +kernel
theorem dX2_freeLine_19 : decode cX2_freeLine 19 = .ok (.if_icmp .ne 54, 3) := by decide +kernel
theorem dX2_freeLine_22 : decode cX2_freeLine 22 = .ok (.aload_n 0, 1) := by decide +kernel
theorem dX2_freeLine_23 : decode cX2_freeLine 23 = .ok (.getfield 24, 3) := by decide +kernel
theorem dX2_freeLine_26 : decode cX2_freeLine 26 = .ok (.iload 4, 2) := by decide +kernel
theorem dX2_freeLine_28 : decode cX2_freeLine 28 = .ok (.baload, 1) := by decide +kernel
theorem dX2_freeLine_29 : decode cX2_freeLine 29 = .ok (.ifCond .ne 44, 3) := by decide +kernel
theorem dX2_freeLine_32 : decode cX2_freeLine 32 = .ok (.aload_n 0, 1) := by decide +kernel
theorem dX2_freeLine_33 : decode cX2_freeLine 33 = .ok (.getfield 9, 3) := by decide +kernel
theorem dX2_freeLine_36 : decode cX2_freeLine 36 = .ok (.iload 4, 2) := by decide +kernel
theorem dX2_freeLine_38 : decode cX2_freeLine 38 = .ok (.iaload, 1) := by decide +kernel
theorem dX2_freeLine_39 : decode cX2_freeLine 39 = .ok (.iconst (-1), 1) := by decide +kernel
theorem dX2_freeLine_40 : decode cX2_freeLine 40 = .ok (.if_icmp .ne 6, 3) := by decide +kernel
theorem dX2_freeLine_43 : decode cX2_freeLine 43 = .ok (.iload 4, 2) := by decide +kernel
theorem dX2_freeLine_45 : decode cX2_freeLine 45 = .ok (.ireturn, 1) := by decide +kernel
theorem dX2_freeLine_46 : decode cX2_freeLine 46 = .ok (.iload_n 2, 1) := by decide +kernel
theorem dX2_freeLine_47 : decode cX2_freeLine 47 = .ok (.iconst (-1), 1) := by decide +kernel
theorem dX2_freeLine_48 : decode cX2_freeLine 48 = .ok (.if_icmp .eq 14, 3) := by decide +kernel
theorem dX2_freeLine_51 : decode cX2_freeLine 51 = .ok (.aload_n 0, 1) := by decide +kernel
theorem dX2_freeLine_52 : decode cX2_freeLine 52 = .ok (.getfield 21, 3) := by decide +kernel
theorem dX2_freeLine_55 : decode cX2_freeLine 55 = .ok (.iload 4, 2) := by decide +kernel
theorem dX2_freeLine_57 : decode cX2_freeLine 57 = .ok (.iaload, 1) := by decide +kernel
theorem dX2_freeLine_58 : decode cX2_freeLine 58 = .ok (.iload_n 3, 1) := by decide +kernel
theorem dX2_freeLine_59 : decode cX2_freeLine 59 = .ok (.if_icmp .ge 14, 3) := by decide +kernel
theorem dX2_freeLine_62 : decode cX2_freeLine 62 = .ok (.iload 4, 2) := by decide +kernel
theorem dX2_freeLine_64 : decode cX2_freeLine 64 = .ok (.istore_n 2, 1) := by decide +kernel
theorem dX2_freeLine_65 : decode cX2_freeLine 65 = .ok (.aload_n 0, 1) := by decide +kernel
theorem dX2_freeLine_66 : decode cX2_freeLine 66 = .ok (.getfield 21, 3) := by decide +kernel
theorem dX2_freeLine_69 : decode cX2_freeLine 69 = .ok (.iload 4, 2) := by decide +kernel
theorem dX2_freeLine_71 : decode cX2_freeLine 71 = .ok (.iaload, 1) := by decide +kernel
theorem dX2_freeLine_72 : decode cX2_freeLine 72 = .ok (.istore_n 3, 1) := by decide +kernel
theorem dX2_freeLine_73 : decode cX2_freeLine 73 = .ok (.iinc 4 1, 3) := by decide +kernel
theorem dX2_freeLine_76 : decode cX2_freeLine 76 = .ok (.goto (-69), 3) := by decide +kernel
theorem dX2_freeLine_79 : decode cX2_freeLine 79 = .ok (.iload_n 2, 1) := by decide +kernel
theorem dX2_freeLine_80 : decode cX2_freeLine 80 = .ok (.ireturn, 1) := by decide +kernel
set_option maxRecDepth 20000 in
theorem ggX2_fullestStripe_X2_dirtyLinesOf : GoodIn wsX2_fullestStripe wsX2_dirtyLinesOf := goodIn_r _ [5, 6, 7, 8, 4, 9, 10, 11, 12, 13, 14, 15, 16, 17, 18, 19, 20, 21, 22, 23] (by decide +kernel) (by decide +kernel)
set_option maxRecDepth 20000 in
theorem gX2_fullestStripe_X2_dirtyLinesOf : GoodIn wsX2_fullestStripe (wsV RX2 52 RX2 yX2_dirtyLinesOf wsX2_dirtyLinesOf) := goodIn_app (goodIn_of _ (by decide +kernel)) ggX2_fullestStripe_X2_dirtyLinesOf
theorem dX2_fullestStripe_0 : decode cX2_fullestStripe 0 = .ok (.iconst (-1), 1) := by decide +kernel
theorem dX2_fullestStripe_1 : decode cX2_fullestStripe 1 = .ok (.istore_n 2, 1) := by decide +kernel
theorem dX2_fullestStripe_2 : decode cX2_fullestStripe 2 = .ok (.iconst 0, 1) := by decide +kernel
theorem dX2_fullestStripe_3 : decode cX2_fullestStripe 3 = .ok (.istore_n 3, 1) := by decide +kernel
theorem dX2_fullestStripe_4 : decode cX2_fullestStripe 4 = .ok (.iconst 0, 1) := by decide +kernel
theorem dX2_fullestStripe_5 : decode cX2_fullestStripe 5 = .ok (.istore 4, 2) := by decide +kernel
theorem dX2_fullestStripe_7 : decode cX2_fullestStripe 7 = .ok (.iload 4, 2) := by decide +kernel
theorem dX2_fullestStripe_9 : decode cX2_fullestStripe 9 = .ok (.bipush 16, 2) := by decide +kernel
theorem dX2_fullestStripe_11 : decode cX2_fullestStripe 11 = .ok (.if_icmp .ge 37, 3) := by decide +kernel
theorem dX2_fullestStripe_14 : decode cX2_fullestStripe 14 = .ok (.iload 4, 2) := by decide +kernel
theorem dX2_fullestStripe_16 : decode cX2_fullestStripe 16 = .ok (.iconst 4, 1) := by decide +kernel
theorem dX2_fullestStripe_17 : decode cX2_fullestStripe 17 = .ok (.irem, 1) := by decide +kernel
theorem dX2_fullestStripe_18 : decode cX2_fullestStripe 18 = .ok (.iload_n 1, 1) := by decide +kernel
theorem dX2_fullestStripe_19 : decode cX2_fullestStripe 19 = .ok (.if_icmp .ne 23, 3) := by decide +kernel
theorem dX2_fullestStripe_22 : decode cX2_fullestStripe 22 = .ok (.aload_n 0, 1) := by decide +kernel
theorem dX2_fullestStripe_23 : decode cX2_fullestStripe 23 = .ok (.iload 4, 2) := by decide +kernel
theorem dX2_fullestStripe_25 : decode cX2_fullestStripe 25 = .ok (.invokevirtual 52, 3) := by decide +kernel
theorem dX2_fullestStripe_28 : decode cX2_fullestStripe 28 = .ok (.iload_n 3, 1) := by decide +kernel
theorem dX2_fullestStripe_29 : decode cX2_fullestStripe 29 = .ok (.if_icmp .le 13, 3) := by decide +kernel
theorem dX2_fullestStripe_32 : decode cX2_fullestStripe 32 = .ok (.iload 4, 2) := by decide +kernel
theorem dX2_fullestStripe_34 : decode cX2_fullestStripe 34 = .ok (.istore_n 2, 1) := by decide +kernel
theorem dX2_fullestStripe_35 : decode cX2_fullestStripe 35 = .ok (.aload_n 0, 1) := by decide +kernel
theorem dX2_fullestStripe_36 : decode cX2_fullestStripe 36 = .ok (.iload 4, 2) := by decide +kernel
theorem dX2_fullestStripe_38 : decode cX2_fullestStripe 38 = .ok (.invokevirtual 52, 3) := by decide +kernel
theorem dX2_fullestStripe_41 : decode cX2_fullestStripe 41 = .ok (.istore_n 3, 1) := by decide +kernel
theorem dX2_fullestStripe_42 : decode cX2_fullestStripe 42 = .ok (.iinc 4 1, 3) := by decide +kernel
theorem dX2_fullestStripe_45 : decode cX2_fullestStripe 45 = .ok (.goto (-38), 3) := by decide +kernel
theorem dX2_fullestStripe_48 : decode cX2_fullestStripe 48 = .ok (.iload_n 2, 1) := by decide +kernel
theorem dX2_fullestStripe_49 : decode cX2_fullestStripe 49 = .ok (.ireturn, 1) := by decide +kernel
set_option maxRecDepth 20000 in
theorem ggX2_fill_X4_isLine : GoodIn wsX2_fill wsX4_isLine := goodIn_r _ [7] (by decide +kernel) (by decide +kernel)
set_option maxRecDepth 20000 in
theorem gX2_fill_X4_isLine_n55 : GoodIn wsX2_fill (wsX4_isLine) := ggX2_fill_X4_isLine
set_option maxRecDepth 20000 in
theorem ggX2_fill_X2_use : GoodIn wsX2_fill wsX2_use := goodIn_r _ [12, 13, 14, 5, 6, 7, 15, 16, 17, 18, 19, 20, 21, 22, 23] (by decide +kernel) (by decide +kernel)
set_option maxRecDepth 20000 in
theorem gX2_fill_X2_use : GoodIn wsX2_fill (wsV RX2 59 RX2 yX2_use wsX2_use) := goodIn_app (goodIn_of _ (by decide +kernel)) ggX2_fill_X2_use
theorem dX2_fill_0 : decode cX2_fill 0 = .ok (.iload_n 1, 1) := by decide +kernel
theorem dX2_fill_1 : decode cX2_fill 1 = .ok (.invokestatic 55, 3) := by decide +kernel
theorem dX2_fill_4 : decode cX2_fill 4 = .ok (.ifCond .eq 38, 3) := by decide +kernel
theorem dX2_fill_7 : decode cX2_fill 7 = .ok (.aload_n 0, 1) := by decide +kernel
theorem dX2_fill_8 : decode cX2_fill 8 = .ok (.getfield 9, 3) := by decide +kernel
theorem dX2_fill_11 : decode cX2_fill 11 = .ok (.iload_n 1, 1) := by decide +kernel
theorem dX2_fill_12 : decode cX2_fill 12 = .ok (.iload_n 2, 1) := by decide +kernel
theorem dX2_fill_13 : decode cX2_fill 13 = .ok (.iastore, 1) := by decide +kernel
theorem dX2_fill_14 : decode cX2_fill 14 = .ok (.aload_n 0, 1) := by decide +kernel
theorem dX2_fill_15 : decode cX2_fill 15 = .ok (.getfield 15, 3) := by decide +kernel
theorem dX2_fill_18 : decode cX2_fill 18 = .ok (.iload_n 1, 1) := by decide +kernel
theorem dX2_fill_19 : decode cX2_fill 19 = .ok (.iload_n 3, 1) := by decide +kernel
theorem dX2_fill_20 : decode cX2_fill 20 = .ok (.iastore, 1) := by decide +kernel
theorem dX2_fill_21 : decode cX2_fill 21 = .ok (.aload_n 0, 1) := by decide +kernel
theorem dX2_fill_22 : decode cX2_fill 22 = .ok (.getfield 18, 3) := by decide +kernel
theorem dX2_fill_25 : decode cX2_fill 25 = .ok (.iload_n 1, 1) := by decide +kernel
theorem dX2_fill_26 : decode cX2_fill 26 = .ok (.iload 4, 2) := by decide +kernel
theorem dX2_fill_28 : decode cX2_fill 28 = .ok (.iastore, 1) := by decide +kernel
theorem dX2_fill_29 : decode cX2_fill 29 = .ok (.aload_n 0, 1) := by decide +kernel
theorem dX2_fill_30 : decode cX2_fill 30 = .ok (.getfield 24, 3) := by decide +kernel
theorem dX2_fill_33 : decode cX2_fill 33 = .ok (.iload_n 1, 1) := by decide +kernel
theorem dX2_fill_34 : decode cX2_fill 34 = .ok (.iload 5, 2) := by decide +kernel
theorem dX2_fill_36 : decode cX2_fill 36 = .ok (.bastore, 1) := by decide +kernel
theorem dX2_fill_37 : decode cX2_fill 37 = .ok (.aload_n 0, 1) := by decide +kernel
theorem dX2_fill_38 : decode cX2_fill 38 = .ok (.iload_n 1, 1) := by decide +kernel
theorem dX2_fill_39 : decode cX2_fill 39 = .ok (.invokevirtual 59, 3) := by decide +kernel
theorem dX2_fill_42 : decode cX2_fill 42 = .ok (.return_, 1) := by decide +kernel
set_option maxRecDepth 20000 in
theorem ggX2_use_X4_isLine : GoodIn wsX2_use wsX4_isLine := goodIn_r _ [5] (by decide +kernel) (by decide +kernel)
set_option maxRecDepth 20000 in
theorem gX2_use_X4_isLine_n55 : GoodIn wsX2_use (wsX4_isLine) := ggX2_use_X4_isLine
theorem dX2_use_0 : decode cX2_use 0 = .ok (.iload_n 1, 1) := by decide +kernel
theorem dX2_use_1 : decode cX2_use 1 = .ok (.invokestatic 55, 3) := by decide +kernel
theorem dX2_use_4 : decode cX2_use 4 = .ok (.ifCond .eq 23, 3) := by decide +kernel
theorem dX2_use_7 : decode cX2_use 7 = .ok (.aload_n 0, 1) := by decide +kernel
theorem dX2_use_8 : decode cX2_use 8 = .ok (.dup, 1) := by decide +kernel
theorem dX2_use_9 : decode cX2_use 9 = .ok (.getfield 45, 3) := by decide +kernel
theorem dX2_use_12 : decode cX2_use 12 = .ok (.iconst 1, 1) := by decide +kernel
theorem dX2_use_13 : decode cX2_use 13 = .ok (.iadd, 1) := by decide +kernel
theorem dX2_use_14 : decode cX2_use 14 = .ok (.putfield 45, 3) := by decide +kernel
theorem dX2_use_17 : decode cX2_use 17 = .ok (.aload_n 0, 1) := by decide +kernel
theorem dX2_use_18 : decode cX2_use 18 = .ok (.getfield 21, 3) := by decide +kernel
theorem dX2_use_21 : decode cX2_use 21 = .ok (.iload_n 1, 1) := by decide +kernel
theorem dX2_use_22 : decode cX2_use 22 = .ok (.aload_n 0, 1) := by decide +kernel
theorem dX2_use_23 : decode cX2_use 23 = .ok (.getfield 45, 3) := by decide +kernel
theorem dX2_use_26 : decode cX2_use 26 = .ok (.iastore, 1) := by decide +kernel
theorem dX2_use_27 : decode cX2_use 27 = .ok (.return_, 1) := by decide +kernel
set_option maxRecDepth 20000 in
theorem ggX2_empty_X4_isLine : GoodIn wsX2_empty wsX4_isLine := goodIn_r _ [5] (by decide +kernel) (by decide +kernel)
set_option maxRecDepth 20000 in
theorem gX2_empty_X4_isLine_n55 : GoodIn wsX2_empty (wsX4_isLine) := ggX2_empty_X4_isLine
theorem dX2_empty_0 : decode cX2_empty 0 = .ok (.iload_n 1, 1) := by decide +kernel
theorem dX2_empty_1 : decode cX2_empty 1 = .ok (.invokestatic 55, 3) := by decide +kernel
theorem dX2_empty_4 : decode cX2_empty 4 = .ok (.ifCond .eq 17, 3) := by decide +kernel
theorem dX2_empty_7 : decode cX2_empty 7 = .ok (.aload_n 0, 1) := by decide +kernel
theorem dX2_empty_8 : decode cX2_empty 8 = .ok (.getfield 9, 3) := by decide +kernel
theorem dX2_empty_11 : decode cX2_empty 11 = .ok (.iload_n 1, 1) := by decide +kernel
theorem dX2_empty_12 : decode cX2_empty 12 = .ok (.iconst (-1), 1) := by decide +kernel
theorem dX2_empty_13 : decode cX2_empty 13 = .ok (.iastore, 1) := by decide +kernel
theorem dX2_empty_14 : decode cX2_empty 14 = .ok (.aload_n 0, 1) := by decide +kernel
theorem dX2_empty_15 : decode cX2_empty 15 = .ok (.getfield 24, 3) := by decide +kernel
theorem dX2_empty_18 : decode cX2_empty 18 = .ok (.iload_n 1, 1) := by decide +kernel
theorem dX2_empty_19 : decode cX2_empty 19 = .ok (.iconst 0, 1) := by decide +kernel
theorem dX2_empty_20 : decode cX2_empty 20 = .ok (.bastore, 1) := by decide +kernel
theorem dX2_empty_21 : decode cX2_empty 21 = .ok (.return_, 1) := by decide +kernel
set_option maxRecDepth 20000 in
theorem ggX2_isDirtyOf_X4_stripeOf : GoodIn wsX2_isDirtyOf wsX4_stripeOf := goodIn_r _ [5] (by decide +kernel) (by decide +kernel)
set_option maxRecDepth 20000 in
theorem gX2_isDirtyOf_X4_stripeOf_n63 : GoodIn wsX2_isDirtyOf (wsX4_stripeOf) := ggX2_isDirtyOf_X4_stripeOf
theorem dX2_isDirtyOf_0 : decode cX2_isDirtyOf 0 = .ok (.iload_n 1, 1) := by decide +kernel
theorem dX2_isDirtyOf_1 : decode cX2_isDirtyOf 1 = .ok (.ifCond .lt 35, 3) := by decide +kernel
theorem dX2_isDirtyOf_4 : decode cX2_isDirtyOf 4 = .ok (.iload_n 1, 1) := by decide +kernel
theorem dX2_isDirtyOf_5 : decode cX2_isDirtyOf 5 = .ok (.bipush 12, 2) := by decide +kernel
theorem dX2_isDirtyOf_7 : decode cX2_isDirtyOf 7 = .ok (.if_icmp .ge 29, 3) := by decide +kernel
theorem dX2_isDirtyOf_10 : decode cX2_isDirtyOf 10 = .ok (.aload_n 0, 1) := by decide +kernel
theorem dX2_isDirtyOf_11 : decode cX2_isDirtyOf 11 = .ok (.getfield 24, 3) := by decide +kernel
theorem dX2_isDirtyOf_14 : decode cX2_isDirtyOf 14 = .ok (.iload_n 1, 1) := by decide +kernel
theorem dX2_isDirtyOf_15 : decode cX2_isDirtyOf 15 = .ok (.baload, 1) := by decide +kernel
theorem dX2_isDirtyOf_16 : decode cX2_isDirtyOf 16 = .ok (.ifCond .eq 20, 3) := by decide +kernel
theorem dX2_isDirtyOf_19 : decode cX2_isDirtyOf 19 = .ok (.aload_n 0, 1) := by decide +kernel
theorem dX2_isDirtyOf_20 : decode cX2_isDirtyOf 20 = .ok (.getfield 9, 3) := by decide +kernel
theorem dX2_isDirtyOf_23 : decode cX2_isDirtyOf 23 = .ok (.iload_n 1, 1) := by decide +kernel
theorem dX2_isDirtyOf_24 : decode cX2_isDirtyOf 24 = .ok (.iaload, 1) := by decide +kernel
theorem dX2_isDirtyOf_25 : decode cX2_isDirtyOf 25 = .ok (.invokestatic 63, 3) := by decide +kernel
theorem dX2_isDirtyOf_28 : decode cX2_isDirtyOf 28 = .ok (.iload_n 2, 1) := by decide +kernel
theorem dX2_isDirtyOf_29 : decode cX2_isDirtyOf 29 = .ok (.if_icmp .ne 7, 3) := by decide +kernel
theorem dX2_isDirtyOf_32 : decode cX2_isDirtyOf 32 = .ok (.iconst 1, 1) := by decide +kernel
theorem dX2_isDirtyOf_33 : decode cX2_isDirtyOf 33 = .ok (.goto 4, 3) := by decide +kernel
theorem dX2_isDirtyOf_36 : decode cX2_isDirtyOf 36 = .ok (.iconst 0, 1) := by decide +kernel
theorem dX2_isDirtyOf_37 : decode cX2_isDirtyOf 37 = .ok (.ireturn, 1) := by decide +kernel
set_option maxRecDepth 20000 in
theorem ggX2_dirtyLinesOf_X2_isDirtyOf : GoodIn wsX2_dirtyLinesOf wsX2_isDirtyOf := goodIn_r _ [5, 6, 7, 8, 9, 10, 11, 12, 13, 14, 15, 16, 17, 18, 19] (by decide +kernel) (by decide +kernel)
set_option maxRecDepth 20000 in
theorem gX2_dirtyLinesOf_X2_isDirtyOf : GoodIn wsX2_dirtyLinesOf (wsV RX2 66 RX2 yX2_isDirtyOf wsX2_isDirtyOf) := goodIn_app (goodIn_of _ (by decide +kernel)) ggX2_dirtyLinesOf_X2_isDirtyOf
theorem dX2_dirtyLinesOf_0 : decode cX2_dirtyLinesOf 0 = .ok (.iconst 0, 1) := by decide +kernel
theorem dX2_dirtyLinesOf_1 : decode cX2_dirtyLinesOf 1 = .ok (.istore_n 2, 1) := by decide +kernel
theorem dX2_dirtyLinesOf_2 : decode cX2_dirtyLinesOf 2 = .ok (.iconst 0, 1) := by decide +kernel
theorem dX2_dirtyLinesOf_3 : decode cX2_dirtyLinesOf 3 = .ok (.istore_n 3, 1) := by decide +kernel
theorem dX2_dirtyLinesOf_4 : decode cX2_dirtyLinesOf 4 = .ok (.iload_n 3, 1) := by decide +kernel
theorem dX2_dirtyLinesOf_5 : decode cX2_dirtyLinesOf 5 = .ok (.bipush 12, 2) := by decide +kernel
theorem dX2_dirtyLinesOf_7 : decode cX2_dirtyLinesOf 7 = .ok (.if_icmp .ge 21, 3) := by decide +kernel
theorem dX2_dirtyLinesOf_10 : decode cX2_dirtyLinesOf 10 = .ok (.aload_n 0, 1) := by decide +kernel
theorem dX2_dirtyLinesOf_11 : decode cX2_dirtyLinesOf 11 = .ok (.iload_n 3, 1) := by decide +kernel
theorem dX2_dirtyLinesOf_12 : decode cX2_dirtyLinesOf 12 = .ok (.iload_n 1, 1) := by decide +kernel
theorem dX2_dirtyLinesOf_13 : decode cX2_dirtyLinesOf 13 = .ok (.invokevirtual 66, 3) := by decide +kernel
theorem dX2_dirtyLinesOf_16 : decode cX2_dirtyLinesOf 16 = .ok (.ifCond .eq 6, 3) := by decide +kernel
theorem dX2_dirtyLinesOf_19 : decode cX2_dirtyLinesOf 19 = .ok (.iinc 2 1, 3) := by decide +kernel
theorem dX2_dirtyLinesOf_22 : decode cX2_dirtyLinesOf 22 = .ok (.iinc 3 1, 3) := by decide +kernel
theorem dX2_dirtyLinesOf_25 : decode cX2_dirtyLinesOf 25 = .ok (.goto (-21), 3) := by decide +kernel
theorem dX2_dirtyLinesOf_28 : decode cX2_dirtyLinesOf 28 = .ok (.iload_n 2, 1) := by decide +kernel
theorem dX2_dirtyLinesOf_29 : decode cX2_dirtyLinesOf 29 = .ok (.ireturn, 1) := by decide +kernel
theorem dX2_dirtyLines_0 : decode cX2_dirtyLines 0 = .ok (.iconst 0, 1) := by decide +kernel
theorem dX2_dirtyLines_1 : decode cX2_dirtyLines 1 = .ok (.istore_n 1, 1) := by decide +kernel
theorem dX2_dirtyLines_2 : decode cX2_dirtyLines 2 = .ok (.iconst 0, 1) := by decide +kernel
theorem dX2_dirtyLines_3 : decode cX2_dirtyLines 3 = .ok (.istore_n 2, 1) := by decide +kernel
theorem dX2_dirtyLines_4 : decode cX2_dirtyLines 4 = .ok (.iload_n 2, 1) := by decide +kernel
theorem dX2_dirtyLines_5 : decode cX2_dirtyLines 5 = .ok (.bipush 12, 2) := by decide +kernel
theorem dX2_dirtyLines_7 : decode cX2_dirtyLines 7 = .ok (.if_icmp .ge 21, 3) := by decide +kernel
theorem dX2_dirtyLines_10 : decode cX2_dirtyLines 10 = .ok (.aload_n 0, 1) := by decide +kernel
theorem dX2_dirtyLines_11 : decode cX2_dirtyLines 11 = .ok (.getfield 24, 3) := by decide +kernel
theorem dX2_dirtyLines_14 : decode cX2_dirtyLines 14 = .ok (.iload_n 2, 1) := by decide +kernel
theorem dX2_dirtyLines_15 : decode cX2_dirtyLines 15 = .ok (.baload, 1) := by decide +kernel
theorem dX2_dirtyLines_16 : decode cX2_dirtyLines 16 = .ok (.ifCond .eq 6, 3) := by decide +kernel
theorem dX2_dirtyLines_19 : decode cX2_dirtyLines 19 = .ok (.iinc 1 1, 3) := by decide +kernel
theorem dX2_dirtyLines_22 : decode cX2_dirtyLines 22 = .ok (.iinc 2 1, 3) := by decide +kernel
theorem dX2_dirtyLines_25 : decode cX2_dirtyLines 25 = .ok (.goto (-21), 3) := by decide +kernel
theorem dX2_dirtyLines_28 : decode cX2_dirtyLines 28 = .ok (.iload_n 1, 1) := by decide +kernel
theorem dX2_dirtyLines_29 : decode cX2_dirtyLines 29 = .ok (.ireturn, 1) := by decide +kernel
theorem dX2_usedLines_0 : decode cX2_usedLines 0 = .ok (.iconst 0, 1) := by decide +kernel
theorem dX2_usedLines_1 : decode cX2_usedLines 1 = .ok (.istore_n 1, 1) := by decide +kernel
theorem dX2_usedLines_2 : decode cX2_usedLines 2 = .ok (.iconst 0, 1) := by decide +kernel
theorem dX2_usedLines_3 : decode cX2_usedLines 3 = .ok (.istore_n 2, 1) := by decide +kernel
theorem dX2_usedLines_4 : decode cX2_usedLines 4 = .ok (.iload_n 2, 1) := by decide +kernel
theorem dX2_usedLines_5 : decode cX2_usedLines 5 = .ok (.bipush 12, 2) := by decide +kernel
theorem dX2_usedLines_7 : decode cX2_usedLines 7 = .ok (.if_icmp .ge 22, 3) := by decide +kernel
theorem dX2_usedLines_10 : decode cX2_usedLines 10 = .ok (.aload_n 0, 1) := by decide +kernel
theorem dX2_usedLines_11 : decode cX2_usedLines 11 = .ok (.getfield 9, 3) := by decide +kernel
theorem dX2_usedLines_14 : decode cX2_usedLines 14 = .ok (.iload_n 2, 1) := by decide +kernel
theorem dX2_usedLines_15 : decode cX2_usedLines 15 = .ok (.iaload, 1) := by decide +kernel
theorem dX2_usedLines_16 : decode cX2_usedLines 16 = .ok (.iconst (-1), 1) := by decide +kernel
theorem dX2_usedLines_17 : decode cX2_usedLines 17 = .ok (.if_icmp .eq 6, 3) := by decide +kernel
theorem dX2_usedLines_20 : decode cX2_usedLines 20 = .ok (.iinc 1 1, 3) := by decide +kernel
theorem dX2_usedLines_23 : decode cX2_usedLines 23 = .ok (.iinc 2 1, 3) := by decide +kernel
theorem dX2_usedLines_26 : decode cX2_usedLines 26 = .ok (.goto (-22), 3) := by decide +kernel
theorem dX2_usedLines_29 : decode cX2_usedLines 29 = .ok (.iload_n 1, 1) := by decide +kernel
theorem dX2_usedLines_30 : decode cX2_usedLines 30 = .ok (.ireturn, 1) := by decide +kernel
set_option maxRecDepth 20000 in
theorem ggX2_partOf_X4_isLine : GoodIn wsX2_partOf wsX4_isLine := goodIn_r _ [8] (by decide +kernel) (by decide +kernel)
set_option maxRecDepth 20000 in
theorem gX2_partOf_X4_isLine_n55 : GoodIn wsX2_partOf (wsX4_isLine) := ggX2_partOf_X4_isLine
theorem dX2_partOf_0 : decode cX2_partOf 0 = .ok (.iload_n 1, 1) := by decide +kernel
theorem dX2_partOf_1 : decode cX2_partOf 1 = .ok (.invokestatic 55, 3) := by decide +kernel
theorem dX2_partOf_4 : decode cX2_partOf 4 = .ok (.ifCond .eq 13, 3) := by decide +kernel
theorem dX2_partOf_7 : decode cX2_partOf 7 = .ok (.aload_n 0, 1) := by decide +kernel
theorem dX2_partOf_8 : decode cX2_partOf 8 = .ok (.getfield 9, 3) := by decide +kernel
theorem dX2_partOf_11 : decode cX2_partOf 11 = .ok (.iload_n 1, 1) := by decide +kernel
theorem dX2_partOf_12 : decode cX2_partOf 12 = .ok (.iaload, 1) := by decide +kernel
theorem dX2_partOf_13 : decode cX2_partOf 13 = .ok (.iconst (-1), 1) := by decide +kernel
theorem dX2_partOf_14 : decode cX2_partOf 14 = .ok (.if_icmp .ne 5, 3) := by decide +kernel
theorem dX2_partOf_17 : decode cX2_partOf 17 = .ok (.iconst (-1), 1) := by decide +kernel
theorem dX2_partOf_18 : decode cX2_partOf 18 = .ok (.ireturn, 1) := by decide +kernel
theorem dX2_partOf_19 : decode cX2_partOf 19 = .ok (.iload_n 2, 1) := by decide +kernel
theorem dX2_partOf_20 : decode cX2_partOf 20 = .ok (.tableswitch 79 0 4 #[36, 43, 50, 57, 64], 36) := by decide +kernel
theorem dX2_partOf_56 : decode cX2_partOf 56 = .ok (.aload_n 0, 1) := by decide +kernel
theorem dX2_partOf_57 : decode cX2_partOf 57 = .ok (.getfield 9, 3) := by decide +kernel
theorem dX2_partOf_60 : decode cX2_partOf 60 = .ok (.iload_n 1, 1) := by decide +kernel
theorem dX2_partOf_61 : decode cX2_partOf 61 = .ok (.iaload, 1) := by decide +kernel
theorem dX2_partOf_62 : decode cX2_partOf 62 = .ok (.ireturn, 1) := by decide +kernel
theorem dX2_partOf_63 : decode cX2_partOf 63 = .ok (.aload_n 0, 1) := by decide +kernel
theorem dX2_partOf_64 : decode cX2_partOf 64 = .ok (.getfield 15, 3) := by decide +kernel
theorem dX2_partOf_67 : decode cX2_partOf 67 = .ok (.iload_n 1, 1) := by decide +kernel
theorem dX2_partOf_68 : decode cX2_partOf 68 = .ok (.iaload, 1) := by decide +kernel
theorem dX2_partOf_69 : decode cX2_partOf 69 = .ok (.ireturn, 1) := by decide +kernel
theorem dX2_partOf_70 : decode cX2_partOf 70 = .ok (.aload_n 0, 1) := by decide +kernel
theorem dX2_partOf_71 : decode cX2_partOf 71 = .ok (.getfield 18, 3) := by decide +kernel
theorem dX2_partOf_74 : decode cX2_partOf 74 = .ok (.iload_n 1, 1) := by decide +kernel
theorem dX2_partOf_75 : decode cX2_partOf 75 = .ok (.iaload, 1) := by decide +kernel
theorem dX2_partOf_76 : decode cX2_partOf 76 = .ok (.ireturn, 1) := by decide +kernel
theorem dX2_partOf_77 : decode cX2_partOf 77 = .ok (.aload_n 0, 1) := by decide +kernel
theorem dX2_partOf_78 : decode cX2_partOf 78 = .ok (.getfield 21, 3) := by decide +kernel
theorem dX2_partOf_81 : decode cX2_partOf 81 = .ok (.iload_n 1, 1) := by decide +kernel
theorem dX2_partOf_82 : decode cX2_partOf 82 = .ok (.iaload, 1) := by decide +kernel
theorem dX2_partOf_83 : decode cX2_partOf 83 = .ok (.ireturn, 1) := by decide +kernel
theorem dX2_partOf_84 : decode cX2_partOf 84 = .ok (.aload_n 0, 1) := by decide +kernel
theorem dX2_partOf_85 : decode cX2_partOf 85 = .ok (.getfield 24, 3) := by decide +kernel
theorem dX2_partOf_88 : decode cX2_partOf 88 = .ok (.iload_n 1, 1) := by decide +kernel
theorem dX2_partOf_89 : decode cX2_partOf 89 = .ok (.baload, 1) := by decide +kernel
theorem dX2_partOf_90 : decode cX2_partOf 90 = .ok (.ifCond .eq 7, 3) := by decide +kernel
theorem dX2_partOf_93 : decode cX2_partOf 93 = .ok (.iconst 1, 1) := by decide +kernel
theorem dX2_partOf_94 : decode cX2_partOf 94 = .ok (.goto 4, 3) := by decide +kernel
theorem dX2_partOf_97 : decode cX2_partOf 97 = .ok (.iconst 0, 1) := by decide +kernel
theorem dX2_partOf_98 : decode cX2_partOf 98 = .ok (.ireturn, 1) := by decide +kernel
theorem dX2_partOf_99 : decode cX2_partOf 99 = .ok (.iconst (-1), 1) := by decide +kernel
theorem dX2_partOf_100 : decode cX2_partOf 100 = .ok (.ireturn, 1) := by decide +kernel
theorem dX2_limitTo_0 : decode cX2_limitTo 0 = .ok (.aload_n 0, 1) := by decide +kernel
theorem dX2_limitTo_1 : decode cX2_limitTo 1 = .ok (.iload_n 1, 1) := by decide +kernel
theorem dX2_limitTo_2 : decode cX2_limitTo 2 = .ok (.putfield 28, 3) := by decide +kernel
theorem dX2_limitTo_5 : decode cX2_limitTo 5 = .ok (.aload_n 0, 1) := by decide +kernel
theorem dX2_limitTo_6 : decode cX2_limitTo 6 = .ok (.aload_n 0, 1) := by decide +kernel
theorem dX2_limitTo_7 : decode cX2_limitTo 7 = .ok (.getfield 32, 3) := by decide +kernel
theorem dX2_limitTo_10 : decode cX2_limitTo 10 = .ok (.aload_n 0, 1) := by decide +kernel
theorem dX2_limitTo_11 : decode cX2_limitTo 11 = .ok (.getfield 28, 3) := by decide +kernel
theorem dX2_limitTo_14 : decode cX2_limitTo 14 = .ok (.invokestatic 70, 3) := by decide +kernel
theorem dX2_limitTo_17 : decode cX2_limitTo 17 = .ok (.putfield 32, 3) := by decide +kernel
theorem dX2_limitTo_20 : decode cX2_limitTo 20 = .ok (.return_, 1) := by decide +kernel
theorem dX2_load_0 : decode cX2_load 0 = .ok (.aload_n 0, 1) := by decide +kernel
theorem dX2_load_1 : decode cX2_load 1 = .ok (.aload_n 0, 1) := by decide +kernel
theorem dX2_load_2 : decode cX2_load 2 = .ok (.getfield 32, 3) := by decide +kernel
theorem dX2_load_5 : decode cX2_load 5 = .ok (.iconst 2, 1) := by decide +kernel
theorem dX2_load_6 : decode cX2_load 6 = .ok (.iadd, 1) := by decide +kernel
theorem dX2_load_7 : decode cX2_load 7 = .ok (.aload_n 0, 1) := by decide +kernel
theorem dX2_load_8 : decode cX2_load 8 = .ok (.getfield 28, 3) := by decide +kernel
theorem dX2_load_11 : decode cX2_load 11 = .ok (.invokestatic 70, 3) := by decide +kernel
theorem dX2_load_14 : decode cX2_load 14 = .ok (.putfield 32, 3) := by decide +kernel
theorem dX2_load_17 : decode cX2_load 17 = .ok (.return_, 1) := by decide +kernel
set_option maxRecDepth 20000 in
theorem ggX2_drain_X2_dirtyLines : GoodIn wsX2_drain wsX2_dirtyLines := goodIn_r _ [10, 11, 20, 21, 22, 23, 24, 25, 26, 27, 28] (by decide +kernel) (by decide +kernel)
set_option maxRecDepth 20000 in
theorem gX2_drain_X2_dirtyLines : GoodIn wsX2_drain (wsV RX2 79 RX2 yX2_dirtyLines wsX2_dirtyLines) := goodIn_app (goodIn_of _ (by decide +kernel)) ggX2_drain_X2_dirtyLines
set_option maxRecDepth 20000 in
theorem ggX2_drain_X2_empty : GoodIn wsX2_drain wsX2_empty := goodIn_r _ [15, 16, 11, 17, 18, 19, 20, 21, 22, 23, 24, 25, 26, 27, 28] (by decide +kernel) (by decide +kernel)
set_option maxRecDepth 20000 in
theorem gX2_drain_X2_empty : GoodIn wsX2_drain (wsV RX2 83 RX2 yX2_empty wsX2_empty) := goodIn_app (goodIn_of _ (by decide +kernel)) ggX2_drain_X2_empty
theorem dX2_drain_0 : decode cX2_drain 0 = .ok (.aload_n 0, 1) := by decide +kernel
theorem dX2_drain_1 : decode cX2_drain 1 = .ok (.aload_n 0, 1) := by decide +kernel
theorem dX2_drain_2 : decode cX2_drain 2 = .ok (.getfield 32, 3) := by decide +kernel
theorem dX2_drain_5 : decode cX2_drain 5 = .ok (.iconst 1, 1) := by decide +kernel
theorem dX2_drain_6 : decode cX2_drain 6 = .ok (.isub, 1) := by decide +kernel
theorem dX2_drain_7 : decode cX2_drain 7 = .ok (.iconst 0, 1) := by decide +kernel
theorem dX2_drain_8 : decode cX2_drain 8 = .ok (.invokestatic 76, 3) := by decide +kernel
theorem dX2_drain_11 : decode cX2_drain 11 = .ok (.putfield 32, 3) := by decide +kernel
theorem dX2_drain_14 : decode cX2_drain 14 = .ok (.aload_n 0, 1) := by decide +kernel
theorem dX2_drain_15 : decode cX2_drain 15 = .ok (.getfield 32, 3) := by decide +kernel
theorem dX2_drain_18 : decode cX2_drain 18 = .ok (.ifCond .le 5, 3) := by decide +kernel
theorem dX2_drain_21 : decode cX2_drain 21 = .ok (.iconst 0, 1) := by decide +kernel
theorem dX2_drain_22 : decode cX2_drain 22 = .ok (.ireturn, 1) := by decide +kernel
theorem dX2_drain_23 : decode cX2_drain 23 = .ok (.aload_n 0, 1) := by decide +kernel
theorem dX2_drain_24 : decode cX2_drain 24 = .ok (.invokevirtual 79, 3) := by decide +kernel
theorem dX2_drain_27 : decode cX2_drain 27 = .ok (.istore_n 1, 1) := by decide +kernel
theorem dX2_drain_28 : decode cX2_drain 28 = .ok (.iconst 0, 1) := by decide +kernel
theorem dX2_drain_29 : decode cX2_drain 29 = .ok (.istore_n 2, 1) := by decide +kernel
theorem dX2_drain_30 : decode cX2_drain 30 = .ok (.iload_n 2, 1) := by decide +kernel
theorem dX2_drain_31 : decode cX2_drain 31 = .ok (.bipush 12, 2) := by decide +kernel
theorem dX2_drain_33 : decode cX2_drain 33 = .ok (.if_icmp .ge 14, 3) := by decide +kernel
theorem dX2_drain_36 : decode cX2_drain 36 = .ok (.aload_n 0, 1) := by decide +kernel
theorem dX2_drain_37 : decode cX2_drain 37 = .ok (.iload_n 2, 1) := by decide +kernel
theorem dX2_drain_38 : decode cX2_drain 38 = .ok (.invokevirtual 83, 3) := by decide +kernel
theorem dX2_drain_41 : decode cX2_drain 41 = .ok (.iinc 2 1, 3) := by decide +kernel
theorem dX2_drain_44 : decode cX2_drain 44 = .ok (.goto (-14), 3) := by decide +kernel
theorem dX2_drain_47 : decode cX2_drain 47 = .ok (.iload_n 1, 1) := by decide +kernel
theorem dX2_drain_48 : decode cX2_drain 48 = .ok (.ireturn, 1) := by decide +kernel
