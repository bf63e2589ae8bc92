/-! ===== BEGIN printed: names, fields, word lists, decode rows ===== -/
def RX0 : String := "BackupPlanner$1"
def TX0 : u_T := fun k => match k with
  | _ => ("", "", "", false)
def tyX0 : Nat → FieldType := fun k => match k with
  | _ => .int
abbrev wsX00 : List Cond := u_ws RX0 TX0 0
theorem nmX0 : ∀ a, a < 0 → ∀ b, b < 0 → a ≠ b → (TX0 a).2.1 ≠ (TX0 b).2.1 := by decide +kernel
theorem tyX0_ok : ∀ k, k < 0 → parseFieldDescriptor (TX0 k).2.2.1 = some (tyX0 k) := by decide +kernel
def RX1 : String := "BackupPlanner$Command"
def TX1 : u_T := fun k => match k with
  | _ => ("", "", "", false)
def tyX1 : Nat → FieldType := fun k => match k with
  | _ => .int
abbrev wsX10 : List Cond := u_ws RX1 TX1 0
theorem nmX1 : ∀ a, a < 0 → ∀ b, b < 0 → a ≠ b → (TX1 a).2.1 ≠ (TX1 b).2.1 := by decide +kernel
theorem tyX1_ok : ∀ k, k < 0 → parseFieldDescriptor (TX1 k).2.2.1 = some (tyX1 k) := by decide +kernel
def RX2 : String := "BackupPlanner$Disk"
def TX2 : u_T := fun k => match k with
  | 0 => ("BackupPlanner$Disk", "sizes", "[I", true)
  | 1 => ("BackupPlanner$Disk", "values", "[I", true)
  | 2 => ("BackupPlanner$Disk", "ages", "[I", true)
  | 3 => ("BackupPlanner$Disk", "states", "[I", true)
  | 4 => ("BackupPlanner$Disk", "count", "I", false)
  | 5 => ("BackupPlanner$Disk", "capacity", "I", false)
  | 6 => ("BackupPlanner$Disk", "backups", "I", false)
  | 7 => ("BackupPlanner$Disk", "sizeBackedUp", "I", false)
  | _ => ("BackupPlanner$Disk", "weightBackedUp", "I", false)
def tyX2 : Nat → FieldType := fun k => match k with
  | 0 => .array .int
  | 1 => .array .int
  | 2 => .array .int
  | 3 => .array .int
  | 4 => .int
  | 5 => .int
  | 6 => .int
  | 7 => .int
  | _ => .int
abbrev wsX20 : List Cond := u_ws RX2 TX2 9
theorem nmX2 : ∀ a, a < 9 → ∀ b, b < 9 → a ≠ b → (TX2 a).2.1 ≠ (TX2 b).2.1 := by decide +kernel
theorem tyX2_ok : ∀ k, k < 9 → parseFieldDescriptor (TX2 k).2.2.1 = some (tyX2 k) := by decide +kernel
abbrev cX2_init : ByteArray := prog_4_method_1_code
def yX2_init : MethodName := ⟨RX2, "<init>", "()V"⟩
abbrev cX2_reset : ByteArray := prog_4_method_2_code
def yX2_reset : MethodName := ⟨RX2, "reset", "(I)V"⟩
abbrev cX2_copyFrom : ByteArray := prog_4_method_3_code
def yX2_copyFrom : MethodName := ⟨RX2, "copyFrom", "(LBackupPlanner$Disk;)V"⟩
abbrev cX2_add : ByteArray := prog_4_method_4_code
def yX2_add : MethodName := ⟨RX2, "add", "(II)V"⟩
abbrev cX2_drop : ByteArray := prog_4_method_5_code
def yX2_drop : MethodName := ⟨RX2, "drop", "(I)V"⟩
abbrev cX2_weightOf : ByteArray := prog_4_method_6_code
def yX2_weightOf : MethodName := ⟨RX2, "weightOf", "(I)I"⟩
abbrev cX2_setOf : ByteArray := prog_4_method_7_code
def yX2_setOf : MethodName := ⟨RX2, "setOf", "(I)I"⟩
abbrev cX2_totalSize : ByteArray := prog_4_method_8_code
def yX2_totalSize : MethodName := ⟨RX2, "totalSize", "(I)I"⟩
abbrev cX2_totalWeight : ByteArray := prog_4_method_9_code
def yX2_totalWeight : MethodName := ⟨RX2, "totalWeight", "(I)I"⟩
abbrev cX2_room : ByteArray := prog_4_method_10_code
def yX2_room : MethodName := ⟨RX2, "room", "()I"⟩
abbrev cX2_keep : ByteArray := prog_4_method_11_code
def yX2_keep : MethodName := ⟨RX2, "keep", "(I)I"⟩
abbrev cX2_backUp : ByteArray := prog_4_method_12_code
def yX2_backUp : MethodName := ⟨RX2, "backUp", "(LBackupPlanner$Table;)I"⟩
def RX3 : String := "BackupPlanner$Greedy"
def TX3 : u_T := fun k => match k with
  | 0 => ("BackupPlanner$Greedy", "order", "[I", true)
  | _ => ("BackupPlanner$Greedy", "length", "I", false)
def tyX3 : Nat → FieldType := fun k => match k with
  | 0 => .array .int
  | _ => .int
abbrev wsX30 : List Cond := u_ws RX3 TX3 2
theorem nmX3 : ∀ a, a < 2 → ∀ b, b < 2 → a ≠ b → (TX3 a).2.1 ≠ (TX3 b).2.1 := by decide +kernel
theorem tyX3_ok : ∀ k, k < 2 → parseFieldDescriptor (TX3 k).2.2.1 = some (tyX3 k) := by decide +kernel
abbrev cX3_init : ByteArray := prog_5_method_1_code
def yX3_init : MethodName := ⟨RX3, "<init>", "()V"⟩
abbrev cX3_sort : ByteArray := prog_5_method_2_code
def yX3_sort : MethodName := ⟨RX3, "sort", "(LBackupPlanner$Disk;)V"⟩
abbrev cX3_insert : ByteArray := prog_5_method_3_code
def yX3_insert : MethodName := ⟨RX3, "insert", "(LBackupPlanner$Disk;I)V"⟩
abbrev cX3_isBefore : ByteArray := prog_5_method_4_code
def yX3_isBefore : MethodName := ⟨RX3, "isBefore", "(LBackupPlanner$Disk;II)Z"⟩
abbrev cX3_takeFitting : ByteArray := prog_5_method_6_code
def yX3_takeFitting : MethodName := ⟨RX3, "takeFitting", "(LBackupPlanner$Disk;)I"⟩
abbrev cX3_bound : ByteArray := prog_5_method_7_code
def yX3_bound : MethodName := ⟨RX3, "bound", "(LBackupPlanner$Disk;)I"⟩
def RX4 : String := "BackupPlanner$History"
def TX4 : u_T := fun k => match k with
  | 0 => ("BackupPlanner$History", "kept", "[LBackupPlanner$Disk;", true)
  | _ => ("BackupPlanner$History", "length", "I", false)
def tyX4 : Nat → FieldType := fun k => match k with
  | 0 => .array (.object "BackupPlanner$Disk")
  | _ => .int
abbrev wsX40 : List Cond := u_ws RX4 TX4 2
theorem nmX4 : ∀ a, a < 2 → ∀ b, b < 2 → a ≠ b → (TX4 a).2.1 ≠ (TX4 b).2.1 := by decide +kernel
theorem tyX4_ok : ∀ k, k < 2 → parseFieldDescriptor (TX4 k).2.2.1 = some (tyX4 k) := by decide +kernel
abbrev cX4_init : ByteArray := prog_6_method_1_code
def yX4_init : MethodName := ⟨RX4, "<init>", "()V"⟩
abbrev cX4_remember : ByteArray := prog_6_method_2_code
def yX4_remember : MethodName := ⟨RX4, "remember", "(LBackupPlanner$Disk;)V"⟩
abbrev cX4_forgetOldest : ByteArray := prog_6_method_3_code
def yX4_forgetOldest : MethodName := ⟨RX4, "forgetOldest", "()V"⟩
abbrev cX4_takeBack : ByteArray := prog_6_method_4_code
def yX4_takeBack : MethodName := ⟨RX4, "takeBack", "(LBackupPlanner$Disk;)V"⟩
def RX5 : String := "BackupPlanner$Report"
def TX5 : u_T := fun k => match k with
  | 0 => ("BackupPlanner$Report", "bytes", "[B", true)
  | _ => ("BackupPlanner$Report", "length", "I", false)
def tyX5 : Nat → FieldType := fun k => match k with
  | 0 => .array .byte
  | _ => .int
abbrev wsX50 : List Cond := u_ws RX5 TX5 2
theorem nmX5 : ∀ a, a < 2 → ∀ b, b < 2 → a ≠ b → (TX5 a).2.1 ≠ (TX5 b).2.1 := by decide +kernel
theorem tyX5_ok : ∀ k, k < 2 → parseFieldDescriptor (TX5 k).2.2.1 = some (tyX5 k) := by decide +kernel
abbrev cX5_init : ByteArray := prog_7_method_1_code
def yX5_init : MethodName := ⟨RX5, "<init>", "()V"⟩
def RX6 : String := "BackupPlanner$Script"
def TX6 : u_T := fun k => match k with
  | 0 => ("BackupPlanner$Script", "text", "[B", true)
  | 1 => ("BackupPlanner$Script", "length", "I", false)
  | 2 => ("BackupPlanner$Script", "errorKind", "I", false)
  | 3 => ("BackupPlanner$Script", "errorOffset", "I", false)
  | 4 => ("BackupPlanner$Script", "next", "I", false)
  | 5 => ("BackupPlanner$Script", "tokenKind", "I", false)
  | 6 => ("BackupPlanner$Script", "tokenStart", "I", false)
  | _ => ("BackupPlanner$Script", "executed", "I", false)
def tyX6 : Nat → FieldType := fun k => match k with
  | 0 => .array .byte
  | 1 => .int
  | 2 => .int
  | 3 => .int
  | 4 => .int
  | 5 => .int
  | 6 => .int
  | _ => .int
abbrev wsX60 : List Cond := u_ws RX6 TX6 8
theorem nmX6 : ∀ a, a < 8 → ∀ b, b < 8 → a ≠ b → (TX6 a).2.1 ≠ (TX6 b).2.1 := by decide +kernel
theorem tyX6_ok : ∀ k, k < 8 → parseFieldDescriptor (TX6 k).2.2.1 = some (tyX6 k) := by decide +kernel
abbrev cX6_init : ByteArray := prog_8_method_1_code
def yX6_init : MethodName := ⟨RX6, "<init>", "()V"⟩
abbrev cX6_addBytes : ByteArray := prog_8_method_2_code
def yX6_addBytes : MethodName := ⟨RX6, "addBytes", "(I)V"⟩
abbrev cX6_runDisk : ByteArray := prog_8_method_3_code
def yX6_runDisk : MethodName := ⟨RX6, "runDisk", "(LBackupPlanner$Disk;)Z"⟩
abbrev cX6_runCommands : ByteArray := prog_8_method_4_code
def yX6_runCommands : MethodName := ⟨RX6, "runCommands", "(LBackupPlanner$Disk;LBackupPlanner$Table;I)Z"⟩
abbrev cX6_runRepeat : ByteArray := prog_8_method_5_code
def yX6_runRepeat : MethodName := ⟨RX6, "runRepeat", "(LBackupPlanner$Disk;LBackupPlanner$Table;I)Z"⟩
abbrev cX6_runCommand : ByteArray := prog_8_method_6_code
def yX6_runCommand : MethodName := ⟨RX6, "runCommand", "(LBackupPlanner$Disk;LBackupPlanner$Table;)Z"⟩
abbrev cX6_findCommand : ByteArray := prog_8_method_7_code
def yX6_findCommand : MethodName := ⟨RX6, "findCommand", "()LBackupPlanner$Command;"⟩
abbrev cX6_execute : ByteArray := prog_8_method_8_code
def yX6_execute : MethodName := ⟨RX6, "execute", "(LBackupPlanner$Command;IILBackupPlanner$Disk;LBackupPlanner$Table;)Z"⟩
abbrev cX6_readArgument : ByteArray := prog_8_method_9_code
def yX6_readArgument : MethodName := ⟨RX6, "readArgument", "(ILBackupPlanner$Disk;)I"⟩
abbrev cX6_readNumber : ByteArray := prog_8_method_10_code
def yX6_readNumber : MethodName := ⟨RX6, "readNumber", "(II)I"⟩
abbrev cX6_expect : ByteArray := prog_8_method_11_code
def yX6_expect : MethodName := ⟨RX6, "expect", "(I)Z"⟩
abbrev cX6_fail : ByteArray := prog_8_method_12_code
def yX6_fail : MethodName := ⟨RX6, "fail", "(I)Z"⟩
abbrev cX6_readToken : ByteArray := prog_8_method_13_code
def yX6_readToken : MethodName := ⟨RX6, "readToken", "()V"⟩
abbrev cX6_isWord : ByteArray := prog_8_method_14_code
def yX6_isWord : MethodName := ⟨RX6, "isWord", "(Ljava/lang/String;)Z"⟩
abbrev cX6_kindOf : ByteArray := prog_8_method_15_code
def yX6_kindOf : MethodName := ⟨RX6, "kindOf", "(I)I"⟩
def RX7 : String := "BackupPlanner$Table"
def TX7 : u_T := fun k => match k with
  | 0 => ("BackupPlanner$Table", "ranks", "[[J", true)
  | 1 => ("BackupPlanner$Table", "rowItems", "[I", true)
  | 2 => ("BackupPlanner$Table", "ways", "[I", true)
  | 3 => ("BackupPlanner$Table", "rows", "I", false)
  | 4 => ("BackupPlanner$Table", "pinnedSize", "I", false)
  | _ => ("BackupPlanner$Table", "pinnedRank", "J", false)
def tyX7 : Nat → FieldType := fun k => match k with
  | 0 => .array (.array .long)
  | 1 => .array .int
  | 2 => .array .int
  | 3 => .int
  | 4 => .int
  | _ => .long
abbrev wsX70 : List Cond := u_ws RX7 TX7 6
theorem nmX7 : ∀ a, a < 6 → ∀ b, b < 6 → a ≠ b → (TX7 a).2.1 ≠ (TX7 b).2.1 := by decide +kernel
theorem tyX7_ok : ∀ k, k < 6 → parseFieldDescriptor (TX7 k).2.2.1 = some (tyX7 k) := by decide +kernel
abbrev cX7_init : ByteArray := prog_9_method_1_code
def yX7_init : MethodName := ⟨RX7, "<init>", "()V"⟩
abbrev cX7_build : ByteArray := prog_9_method_2_code
def yX7_build : MethodName := ⟨RX7, "build", "(LBackupPlanner$Disk;I)V"⟩
abbrev cX7_buildRow : ByteArray := prog_9_method_3_code
def yX7_buildRow : MethodName := ⟨RX7, "buildRow", "(IJI)V"⟩
abbrev cX7_cellWeight : ByteArray := prog_9_method_4_code
def yX7_cellWeight : MethodName := ⟨RX7, "cellWeight", "(II)I"⟩
abbrev cX7_bestFor : ByteArray := prog_9_method_5_code
def yX7_bestFor : MethodName := ⟨RX7, "bestFor", "(I)J"⟩
abbrev cX7_countOptimal : ByteArray := prog_9_method_6_code
def yX7_countOptimal : MethodName := ⟨RX7, "countOptimal", "(LBackupPlanner$Disk;)I"⟩
abbrev cX7_countRow : ByteArray := prog_9_method_7_code
def yX7_countRow : MethodName := ⟨RX7, "countRow", "(IIII)V"⟩
def RX8 : String := "BackupPlanner"
def TX8 : u_T := fun k => match k with
  | 0 => ("BackupPlanner", "disk", "LBackupPlanner$Disk;", true)
  | 1 => ("BackupPlanner", "trial", "LBackupPlanner$Disk;", true)
  | 2 => ("BackupPlanner", "snapshot", "LBackupPlanner$Disk;", true)
  | 3 => ("BackupPlanner", "snapshotSaved", "Z", false)
  | 4 => ("BackupPlanner", "history", "LBackupPlanner$History;", true)
  | 5 => ("BackupPlanner", "table", "LBackupPlanner$Table;", true)
  | 6 => ("BackupPlanner", "greedy", "LBackupPlanner$Greedy;", true)
  | 7 => ("BackupPlanner", "script", "LBackupPlanner$Script;", true)
  | _ => ("BackupPlanner", "report", "LBackupPlanner$Report;", true)
def tyX8 : Nat → FieldType := fun k => match k with
  | 0 => .object "BackupPlanner$Disk"
  | 1 => .object "BackupPlanner$Disk"
  | 2 => .object "BackupPlanner$Disk"
  | 3 => .boolean
  | 4 => .object "BackupPlanner$History"
  | 5 => .object "BackupPlanner$Table"
  | 6 => .object "BackupPlanner$Greedy"
  | 7 => .object "BackupPlanner$Script"
  | _ => .object "BackupPlanner$Report"
abbrev wsX80 : List Cond := u_ws RX8 TX8 9
theorem nmX8 : ∀ a, a < 9 → ∀ b, b < 9 → a ≠ b → (TX8 a).2.1 ≠ (TX8 b).2.1 := by decide +kernel
theorem tyX8_ok : ∀ k, k < 9 → parseFieldDescriptor (TX8 k).2.2.1 = some (tyX8 k) := by decide +kernel
abbrev cX8_init : ByteArray := prog_1_method_1_code
def yX8_init : MethodName := ⟨RX8, "<init>", "()V"⟩
abbrev cX8_append : ByteArray := prog_1_method_2_code
def yX8_append : MethodName := ⟨RX8, "append", "(IIIII)I"⟩
abbrev cX8_runScript : ByteArray := prog_1_method_5_code
def yX8_runScript : MethodName := ⟨RX8, "runScript", "()I"⟩
abbrev cX8_addItem : ByteArray := prog_1_method_6_code
def yX8_addItem : MethodName := ⟨RX8, "addItem", "(II)I"⟩
abbrev cX8_removeItem : ByteArray := prog_1_method_7_code
def yX8_removeItem : MethodName := ⟨RX8, "removeItem", "(I)I"⟩
abbrev cX8_setSize : ByteArray := prog_1_method_8_code
def yX8_setSize : MethodName := ⟨RX8, "setSize", "(II)I"⟩
abbrev cX8_setValue : ByteArray := prog_1_method_9_code
def yX8_setValue : MethodName := ⟨RX8, "setValue", "(II)I"⟩
abbrev cX8_pin : ByteArray := prog_1_method_10_code
def yX8_pin : MethodName := ⟨RX8, "pin", "(I)I"⟩
abbrev cX8_exclude : ByteArray := prog_1_method_11_code
def yX8_exclude : MethodName := ⟨RX8, "exclude", "(I)I"⟩
abbrev cX8_release : ByteArray := prog_1_method_12_code
def yX8_release : MethodName := ⟨RX8, "release", "(I)I"⟩
abbrev cX8_setCapacity : ByteArray := prog_1_method_13_code
def yX8_setCapacity : MethodName := ⟨RX8, "setCapacity", "(I)I"⟩
abbrev cX8_pinBest : ByteArray := prog_1_method_14_code
def yX8_pinBest : MethodName := ⟨RX8, "pinBest", "()I"⟩
abbrev cX8_runBackup : ByteArray := prog_1_method_15_code
def yX8_runBackup : MethodName := ⟨RX8, "runBackup", "()I"⟩
abbrev cX8_runBackups : ByteArray := prog_1_method_16_code
def yX8_runBackups : MethodName := ⟨RX8, "runBackups", "(I)I"⟩
abbrev cX8_undo : ByteArray := prog_1_method_17_code
def yX8_undo : MethodName := ⟨RX8, "undo", "()I"⟩
abbrev cX8_itemCount : ByteArray := prog_1_method_23_code
def yX8_itemCount : MethodName := ⟨RX8, "itemCount", "()I"⟩
abbrev cX8_capacity : ByteArray := prog_1_method_24_code
def yX8_capacity : MethodName := ⟨RX8, "capacity", "()I"⟩
abbrev cX8_size : ByteArray := prog_1_method_25_code
def yX8_size : MethodName := ⟨RX8, "size", "(I)I"⟩
abbrev cX8_value : ByteArray := prog_1_method_26_code
def yX8_value : MethodName := ⟨RX8, "value", "(I)I"⟩
abbrev cX8_age : ByteArray := prog_1_method_27_code
def yX8_age : MethodName := ⟨RX8, "age", "(I)I"⟩
abbrev cX8_state : ByteArray := prog_1_method_28_code
def yX8_state : MethodName := ⟨RX8, "state", "(I)I"⟩
abbrev cX8_weight : ByteArray := prog_1_method_29_code
def yX8_weight : MethodName := ⟨RX8, "weight", "(I)I"⟩
abbrev cX8_pinnedItems : ByteArray := prog_1_method_30_code
def yX8_pinnedItems : MethodName := ⟨RX8, "pinnedItems", "()I"⟩
abbrev cX8_pinnedSize : ByteArray := prog_1_method_31_code
def yX8_pinnedSize : MethodName := ⟨RX8, "pinnedSize", "()I"⟩
abbrev cX8_hasPlan : ByteArray := prog_1_method_33_code
def yX8_hasPlan : MethodName := ⟨RX8, "hasPlan", "()Z"⟩
abbrev cX8_bestWeight : ByteArray := prog_1_method_34_code
def yX8_bestWeight : MethodName := ⟨RX8, "bestWeight", "()I"⟩
abbrev cX8_bestPlan : ByteArray := prog_1_method_35_code
def yX8_bestPlan : MethodName := ⟨RX8, "bestPlan", "()I"⟩
abbrev cX8_bestSize : ByteArray := prog_1_method_36_code
def yX8_bestSize : MethodName := ⟨RX8, "bestSize", "()I"⟩
abbrev cX8_slack : ByteArray := prog_1_method_37_code
def yX8_slack : MethodName := ⟨RX8, "slack", "()I"⟩
abbrev cX8_optimalPlans : ByteArray := prog_1_method_39_code
def yX8_optimalPlans : MethodName := ⟨RX8, "optimalPlans", "()I"⟩
abbrev cX8_weightAt : ByteArray := prog_1_method_40_code
def yX8_weightAt : MethodName := ⟨RX8, "weightAt", "(I)I"⟩
abbrev cX8_planAt : ByteArray := prog_1_method_41_code
def yX8_planAt : MethodName := ⟨RX8, "planAt", "(I)I"⟩
abbrev cX8_freeCount : ByteArray := prog_1_method_45_code
def yX8_freeCount : MethodName := ⟨RX8, "freeCount", "()I"⟩
abbrev cX8_cell : ByteArray := prog_1_method_46_code
def yX8_cell : MethodName := ⟨RX8, "cell", "(II)I"⟩
abbrev cX8_greedyPlan : ByteArray := prog_1_method_48_code
def yX8_greedyPlan : MethodName := ⟨RX8, "greedyPlan", "()I"⟩
abbrev cX8_greedyWeight : ByteArray := prog_1_method_49_code
def yX8_greedyWeight : MethodName := ⟨RX8, "greedyWeight", "()I"⟩
abbrev cX8_upperBound : ByteArray := prog_1_method_50_code
def yX8_upperBound : MethodName := ⟨RX8, "upperBound", "()I"⟩
abbrev cX8_backupCount : ByteArray := prog_1_method_57_code
def yX8_backupCount : MethodName := ⟨RX8, "backupCount", "()I"⟩
abbrev cX8_backedUpSize : ByteArray := prog_1_method_58_code
def yX8_backedUpSize : MethodName := ⟨RX8, "backedUpSize", "()I"⟩
abbrev cX8_backedUpWeight : ByteArray := prog_1_method_59_code
def yX8_backedUpWeight : MethodName := ⟨RX8, "backedUpWeight", "()I"⟩
abbrev cX8_violations : ByteArray := prog_1_method_62_code
def yX8_violations : MethodName := ⟨RX8, "violations", "()I"⟩
abbrev cX8_requireWithin : ByteArray := prog_1_method_66_code
def yX8_requireWithin : MethodName := ⟨RX8, "requireWithin", "(III)V"⟩
abbrev cX8_requireItem : ByteArray := prog_1_method_67_code
def yX8_requireItem : MethodName := ⟨RX8, "requireItem", "(I)V"⟩
abbrev cX8_requireCell : ByteArray := prog_1_method_68_code
def yX8_requireCell : MethodName := ⟨RX8, "requireCell", "(III)V"⟩
abbrev cX8_changeState : ByteArray := prog_1_method_69_code
def yX8_changeState : MethodName := ⟨RX8, "changeState", "(II)I"⟩
abbrev cX8_backUpAll : ByteArray := prog_1_method_70_code
def yX8_backUpAll : MethodName := ⟨RX8, "backUpAll", "(LBackupPlanner$Disk;I)I"⟩
abbrev cX8_bestRank : ByteArray := prog_1_method_71_code
def yX8_bestRank : MethodName := ⟨RX8, "bestRank", "(LBackupPlanner$Disk;)J"⟩
abbrev cX8_differsFromTable : ByteArray := prog_1_method_74_code
def yX8_differsFromTable : MethodName := ⟨RX8, "differsFromTable", "(I)Z"⟩
abbrev cX8_isForbidden : ByteArray := prog_1_method_75_code
def yX8_isForbidden : MethodName := ⟨RX8, "isForbidden", "(I)Z"⟩
abbrev cX8_isOutOfBounds : ByteArray := prog_1_method_76_code
def yX8_isOutOfBounds : MethodName := ⟨RX8, "isOutOfBounds", "(I)Z"⟩
abbrev cX8_contains : ByteArray := prog_1_method_77_code
def yX8_contains : MethodName := ⟨RX8, "contains", "(II)Z"⟩
abbrev cX8_rank : ByteArray := prog_1_method_78_code
def yX8_rank : MethodName := ⟨RX8, "rank", "(III)J"⟩
abbrev cX8_rankWeight : ByteArray := prog_1_method_79_code
def yX8_rankWeight : MethodName := ⟨RX8, "rankWeight", "(J)I"⟩
abbrev cX8_rankSize : ByteArray := prog_1_method_80_code
def yX8_rankSize : MethodName := ⟨RX8, "rankSize", "(J)I"⟩
abbrev cX8_rankSet : ByteArray := prog_1_method_81_code
def yX8_rankSet : MethodName := ⟨RX8, "rankSet", "(J)I"⟩
abbrev cX8_rankSetOrEmpty : ByteArray := prog_1_method_82_code
def yX8_rankSetOrEmpty : MethodName := ⟨RX8, "rankSetOrEmpty", "(J)I"⟩
def RX9 : String := "BackupPlannerModel"
def TX9 : u_T := fun k => match k with
  | _ => ("", "", "", false)
def tyX9 : Nat → FieldType := fun k => match k with
  | _ => .int
abbrev wsX90 : List Cond := u_ws RX9 TX9 0
theorem nmX9 : ∀ a, a < 0 → ∀ b, b < 0 → a ≠ b → (TX9 a).2.1 ≠ (TX9 b).2.1 := by decide +kernel
theorem tyX9_ok : ∀ k, k < 0 → parseFieldDescriptor (TX9 k).2.2.1 = some (tyX9 k) := by decide +kernel
def RJx145de : String := "java/io/Serializable"
def TJx145de : u_T := fun k => match k with
  | _ => ("", "", "", false)
def tyJx145de : Nat → FieldType := fun k => match k with
  | _ => .int
abbrev wsJx145de0 : List Cond := u_ws RJx145de TJx145de 0
theorem nmJx145de : ∀ a, a < 0 → ∀ b, b < 0 → a ≠ b → (TJx145de a).2.1 ≠ (TJx145de b).2.1 := by decide +kernel
theorem tyJx145de_ok : ∀ k, k < 0 → parseFieldDescriptor (TJx145de k).2.2.1 = some (tyJx145de k) := by decide +kernel
def RJ5 : String := "java/lang/AbstractStringBuilder"
def TJ5 : u_T := fun k => match k with
  | _ => ("", "", "", false)
def tyJ5 : Nat → FieldType := fun k => match k with
  | _ => .int
abbrev wsJ50 : List Cond := u_ws RJ5 TJ5 0
theorem nmJ5 : ∀ a, a < 0 → ∀ b, b < 0 → a ≠ b → (TJ5 a).2.1 ≠ (TJ5 b).2.1 := by decide +kernel
theorem tyJ5_ok : ∀ k, k < 0 → parseFieldDescriptor (TJ5 k).2.2.1 = some (tyJ5 k) := by decide +kernel
abbrev cJ5_init_d00df : ByteArray := prog_12_method_2_code
def yJ5_init_d00df : MethodName := ⟨RJ5, "<init>", "(I)V"⟩
abbrev cJ5_length_8abf5 : ByteArray := prog_12_method_6_code
def yJ5_length_8abf5 : MethodName := ⟨RJ5, "length", "()I"⟩
abbrev cJ5_ensureCapacityInternal_d00df : ByteArray := prog_12_method_9_code
def yJ5_ensureCapacityInternal_d00df : MethodName := ⟨RJ5, "ensureCapacityInternal", "(I)V"⟩
abbrev cJ5_newCapacity_0f7a4 : ByteArray := prog_12_method_10_code
def yJ5_newCapacity_0f7a4 : MethodName := ⟨RJ5, "newCapacity", "(I)I"⟩
abbrev cJ5_inflate_da8c8 : ByteArray := prog_12_method_11_code
def yJ5_inflate_da8c8 : MethodName := ⟨RJ5, "inflate", "()V"⟩
abbrev cJ5_append_cf1ce : ByteArray := prog_12_method_22_code
def yJ5_append_cf1ce : MethodName := ⟨RJ5, "append", "(Ljava/lang/String;)Ljava/lang/AbstractStringBuilder;"⟩
abbrev cJ5_appendNull_278bc : ByteArray := prog_12_method_26_code
def yJ5_appendNull_278bc : MethodName := ⟨RJ5, "appendNull", "()Ljava/lang/AbstractStringBuilder;"⟩
abbrev cJ5_append_c97b9 : ByteArray := prog_12_method_32_code
def yJ5_append_c97b9 : MethodName := ⟨RJ5, "append", "(I)Ljava/lang/AbstractStringBuilder;"⟩
abbrev cJ5_getValue_6d5f1 : ByteArray := prog_12_method_64_code
def yJ5_getValue_6d5f1 : MethodName := ⟨RJ5, "getValue", "()[B"⟩
abbrev cJ5_isLatin1_aae02 : ByteArray := prog_12_method_68_code
def yJ5_isLatin1_aae02 : MethodName := ⟨RJ5, "isLatin1", "()Z"⟩
abbrev cJ5_inflateIfNeededFor_a7421 : ByteArray := prog_12_method_71_code
def yJ5_inflateIfNeededFor_a7421 : MethodName := ⟨RJ5, "inflateIfNeededFor", "(Ljava/lang/String;)V"⟩
abbrev cJ5_putStringAt_47b60 : ByteArray := prog_12_method_73_code
def yJ5_putStringAt_47b60 : MethodName := ⟨RJ5, "putStringAt", "(ILjava/lang/String;)V"⟩
def RJx2cfe8 : String := "java/lang/Appendable"
def TJx2cfe8 : u_T := fun k => match k with
  | _ => ("", "", "", false)
def tyJx2cfe8 : Nat → FieldType := fun k => match k with
  | _ => .int
abbrev wsJx2cfe80 : List Cond := u_ws RJx2cfe8 TJx2cfe8 0
theorem nmJx2cfe8 : ∀ a, a < 0 → ∀ b, b < 0 → a ≠ b → (TJx2cfe8 a).2.1 ≠ (TJx2cfe8 b).2.1 := by decide +kernel
theorem tyJx2cfe8_ok : ∀ k, k < 0 → parseFieldDescriptor (TJx2cfe8 k).2.2.1 = some (tyJx2cfe8 k) := by decide +kernel
def RJx9f9b0 : String := "java/lang/CharSequence"
def TJx9f9b0 : u_T := fun k => match k with
  | _ => ("", "", "", false)
def tyJx9f9b0 : Nat → FieldType := fun k => match k with
  | _ => .int
abbrev wsJx9f9b00 : List Cond := u_ws RJx9f9b0 TJx9f9b0 0
theorem nmJx9f9b0 : ∀ a, a < 0 → ∀ b, b < 0 → a ≠ b → (TJx9f9b0 a).2.1 ≠ (TJx9f9b0 b).2.1 := by decide +kernel
theorem tyJx9f9b0_ok : ∀ k, k < 0 → parseFieldDescriptor (TJx9f9b0 k).2.2.1 = some (tyJx9f9b0 k) := by decide +kernel
def RJx8e188 : String := "java/lang/Cloneable"
def TJx8e188 : u_T := fun k => match k with
  | _ => ("", "", "", false)
def tyJx8e188 : Nat → FieldType := fun k => match k with
  | _ => .int
abbrev wsJx8e1880 : List Cond := u_ws RJx8e188 TJx8e188 0
theorem nmJx8e188 : ∀ a, a < 0 → ∀ b, b < 0 → a ≠ b → (TJx8e188 a).2.1 ≠ (TJx8e188 b).2.1 := by decide +kernel
theorem tyJx8e188_ok : ∀ k, k < 0 → parseFieldDescriptor (TJx8e188 k).2.2.1 = some (tyJx8e188 k) := by decide +kernel
def RJxb160c : String := "java/lang/Comparable"
def TJxb160c : u_T := fun k => match k with
  | _ => ("", "", "", false)
def tyJxb160c : Nat → FieldType := fun k => match k with
  | _ => .int
abbrev wsJxb160c0 : List Cond := u_ws RJxb160c TJxb160c 0
theorem nmJxb160c : ∀ a, a < 0 → ∀ b, b < 0 → a ≠ b → (TJxb160c a).2.1 ≠ (TJxb160c b).2.1 := by decide +kernel
theorem tyJxb160c_ok : ∀ k, k < 0 → parseFieldDescriptor (TJxb160c k).2.2.1 = some (tyJxb160c k) := by decide +kernel
def RJx29ce0 : String := "java/lang/Enum"
def TJx29ce0 : u_T := fun k => match k with
  | _ => ("", "", "", false)
def tyJx29ce0 : Nat → FieldType := fun k => match k with
  | _ => .int
abbrev wsJx29ce00 : List Cond := u_ws RJx29ce0 TJx29ce0 0
theorem nmJx29ce0 : ∀ a, a < 0 → ∀ b, b < 0 → a ≠ b → (TJx29ce0 a).2.1 ≠ (TJx29ce0 b).2.1 := by decide +kernel
theorem tyJx29ce0_ok : ∀ k, k < 0 → parseFieldDescriptor (TJx29ce0 k).2.2.1 = some (tyJx29ce0 k) := by decide +kernel
abbrev cJx29ce0_ordinal_8abf5 : ByteArray := prog_14_method_2_code
def yJx29ce0_ordinal_8abf5 : MethodName := ⟨RJx29ce0, "ordinal", "()I"⟩
def RJ6 : String := "java/lang/Integer"
def TJ6 : u_T := fun k => match k with
  | _ => ("", "", "", false)
def tyJ6 : Nat → FieldType := fun k => match k with
  | _ => .int
abbrev wsJ60 : List Cond := u_ws RJ6 TJ6 0
theorem nmJ6 : ∀ a, a < 0 → ∀ b, b < 0 → a ≠ b → (TJ6 a).2.1 ≠ (TJ6 b).2.1 := by decide +kernel
theorem tyJ6_ok : ∀ k, k < 0 → parseFieldDescriptor (TJ6 k).2.2.1 = some (tyJ6 k) := by decide +kernel
abbrev cJ6_getChars_ba4f3 : ByteArray := prog_19_method_12_code
def yJ6_getChars_ba4f3 : MethodName := ⟨RJ6, "getChars", "(II[B)I"⟩
abbrev cJ6_stringSize_0f7a4 : ByteArray := prog_19_method_13_code
def yJ6_stringSize_0f7a4 : MethodName := ⟨RJ6, "stringSize", "(I)I"⟩
abbrev cJ6_bitCount_0f7a4 : ByteArray := prog_19_method_49_code
def yJ6_bitCount_0f7a4 : MethodName := ⟨RJ6, "bitCount", "(I)I"⟩
def RJ9 : String := "java/lang/Math"
def TJ9 : u_T := fun k => match k with
  | _ => ("", "", "", false)
def tyJ9 : Nat → FieldType := fun k => match k with
  | _ => .int
abbrev wsJ90 : List Cond := u_ws RJ9 TJ9 0
theorem nmJ9 : ∀ a, a < 0 → ∀ b, b < 0 → a ≠ b → (TJ9 a).2.1 ≠ (TJ9 b).2.1 := by decide +kernel
theorem tyJ9_ok : ∀ k, k < 0 → parseFieldDescriptor (TJ9 k).2.2.1 = some (tyJ9 k) := by decide +kernel
abbrev cJ9_floorMod_7cf53 : ByteArray := prog_20_method_50_code
def yJ9_floorMod_7cf53 : MethodName := ⟨RJ9, "floorMod", "(II)I"⟩
abbrev cJ9_max_7cf53 : ByteArray := prog_20_method_65_code
def yJ9_max_7cf53 : MethodName := ⟨RJ9, "max", "(II)I"⟩
abbrev cJ9_min_7cf53 : ByteArray := prog_20_method_69_code
def yJ9_min_7cf53 : MethodName := ⟨RJ9, "min", "(II)I"⟩
def RJxd2413 : String := "java/lang/Number"
def TJxd2413 : u_T := fun k => match k with
  | _ => ("", "", "", false)
def tyJxd2413 : Nat → FieldType := fun k => match k with
  | _ => .int
abbrev wsJxd24130 : List Cond := u_ws RJxd2413 TJxd2413 0
theorem nmJxd2413 : ∀ a, a < 0 → ∀ b, b < 0 → a ≠ b → (TJxd2413 a).2.1 ≠ (TJxd2413 b).2.1 := by decide +kernel
theorem tyJxd2413_ok : ∀ k, k < 0 → parseFieldDescriptor (TJxd2413 k).2.2.1 = some (tyJxd2413 k) := by decide +kernel
def RJ0 : String := "java/lang/String"
def TJ0 : u_T := fun k => match k with
  | 0 => ("java/lang/String", "value", "[B", true)
  | 1 => ("java/lang/String", "coder", "B", true)
  | 2 => ("java/lang/String", "hash", "I", false)
  | _ => ("java/lang/String", "hashIsZero", "Z", false)
def tyJ0 : Nat → FieldType := fun k => match k with
  | 0 => .array .byte
  | 1 => .byte
  | 2 => .int
  | _ => .boolean
abbrev wsJ00 : List Cond := u_ws RJ0 TJ0 4
theorem nmJ0 : ∀ a, a < 4 → ∀ b, b < 4 → a ≠ b → (TJ0 a).2.1 ≠ (TJ0 b).2.1 := by decide +kernel
theorem tyJ0_ok : ∀ k, k < 4 → parseFieldDescriptor (TJ0 k).2.2.1 = some (tyJ0 k) := by decide +kernel
abbrev cJ0_init_81219 : ByteArray := prog_23_method_53_code
def yJ0_init_81219 : MethodName := ⟨RJ0, "<init>", "(Ljava/lang/StringBuilder;)V"⟩
abbrev cJ0_length_8abf5 : ByteArray := prog_23_method_54_code
def yJ0_length_8abf5 : MethodName := ⟨RJ0, "length", "()I"⟩
abbrev cJ0_charAt_5068e : ByteArray := prog_23_method_56_code
def yJ0_charAt_5068e : MethodName := ⟨RJ0, "charAt", "(I)C"⟩
abbrev cJ0_getBytes_840e7 : ByteArray := prog_23_method_147_code
def yJ0_getBytes_840e7 : MethodName := ⟨RJ0, "getBytes", "([BIB)V"⟩
abbrev cJ0_init_db425 : ByteArray := prog_23_method_150_code
def yJ0_init_db425 : MethodName := ⟨RJ0, "<init>", "(Ljava/lang/AbstractStringBuilder;Ljava/lang/Void;)V"⟩
abbrev cJ0_coder_7d493 : ByteArray := prog_23_method_152_code
def yJ0_coder_7d493 : MethodName := ⟨RJ0, "coder", "()B"⟩
abbrev cJ0_isLatin1_aae02 : ByteArray := prog_23_method_154_code
def yJ0_isLatin1_aae02 : MethodName := ⟨RJ0, "isLatin1", "()Z"⟩
abbrev cJ0_checkIndex_df160 : ByteArray := prog_23_method_155_code
def yJ0_checkIndex_df160 : MethodName := ⟨RJ0, "checkIndex", "(II)V"⟩
abbrev cJ0_checkBoundsOffCount_cabcc : ByteArray := prog_23_method_157_code
def yJ0_checkBoundsOffCount_cabcc : MethodName := ⟨RJ0, "checkBoundsOffCount", "(III)I"⟩
abbrev cJ0_checkBoundsBeginEnd_23922 : ByteArray := prog_23_method_158_code
def yJ0_checkBoundsBeginEnd_23922 : MethodName := ⟨RJ0, "checkBoundsBeginEnd", "(III)V"⟩
def RJ4 : String := "java/lang/StringBuilder"
def TJ4 : u_T := fun k => match k with
  | 0 => ("java/lang/AbstractStringBuilder", "value", "[B", false)
  | 1 => ("java/lang/AbstractStringBuilder", "coder", "B", false)
  | 2 => ("java/lang/AbstractStringBuilder", "maybeLatin1", "Z", false)
  | _ => ("java/lang/AbstractStringBuilder", "count", "I", false)
def tyJ4 : Nat → FieldType := fun k => match k with
  | 0 => .array .byte
  | 1 => .byte
  | 2 => .boolean
  | _ => .int
abbrev wsJ40 : List Cond := u_ws RJ4 TJ4 4
theorem nmJ4 : ∀ a, a < 4 → ∀ b, b < 4 → a ≠ b → (TJ4 a).2.1 ≠ (TJ4 b).2.1 := by decide +kernel
theorem tyJ4_ok : ∀ k, k < 4 → parseFieldDescriptor (TJ4 k).2.2.1 = some (tyJ4 k) := by decide +kernel
abbrev cJ4_init_da8c8 : ByteArray := prog_24_method_1_code
def yJ4_init_da8c8 : MethodName := ⟨RJ4, "<init>", "()V"⟩
abbrev cJ4_append_15ec4 : ByteArray := prog_24_method_7_code
def yJ4_append_15ec4 : MethodName := ⟨RJ4, "append", "(Ljava/lang/String;)Ljava/lang/StringBuilder;"⟩
abbrev cJ4_append_bf812 : ByteArray := prog_24_method_15_code
def yJ4_append_bf812 : MethodName := ⟨RJ4, "append", "(I)Ljava/lang/StringBuilder;"⟩
abbrev cJ4_toString_0e30d : ByteArray := prog_24_method_42_code
def yJ4_toString_0e30d : MethodName := ⟨RJ4, "toString", "()Ljava/lang/String;"⟩
abbrev cJ4_length_8abf5 : ByteArray := prog_24_method_93_code
def yJ4_length_8abf5 : MethodName := ⟨RJ4, "length", "()I"⟩
def RJ1 : String := "java/lang/StringLatin1"
def TJ1 : u_T := fun k => match k with
  | _ => ("", "", "", false)
def tyJ1 : Nat → FieldType := fun k => match k with
  | _ => .int
abbrev wsJ10 : List Cond := u_ws RJ1 TJ1 0
theorem nmJ1 : ∀ a, a < 0 → ∀ b, b < 0 → a ≠ b → (TJ1 a).2.1 ≠ (TJ1 b).2.1 := by decide +kernel
theorem tyJ1_ok : ∀ k, k < 0 → parseFieldDescriptor (TJ1 k).2.2.1 = some (tyJ1 k) := by decide +kernel
abbrev cJ1_charAt_3b067 : ByteArray := prog_25_method_2_code
def yJ1_charAt_3b067 : MethodName := ⟨RJ1, "charAt", "([BI)C"⟩
abbrev cJ1_inflate_0e8fd : ByteArray := prog_25_method_50_code
def yJ1_inflate_0e8fd : MethodName := ⟨RJ1, "inflate", "([BI[BII)V"⟩
def RJ2 : String := "java/lang/StringUTF16"
def TJ2 : u_T := fun k => match k with
  | _ => ("", "", "", false)
def tyJ2 : Nat → FieldType := fun k => match k with
  | _ => .int
abbrev wsJ20 : List Cond := u_ws RJ2 TJ2 0
theorem nmJ2 : ∀ a, a < 0 → ∀ b, b < 0 → a ≠ b → (TJ2 a).2.1 ≠ (TJ2 b).2.1 := by decide +kernel
theorem tyJ2_ok : ∀ k, k < 0 → parseFieldDescriptor (TJ2 k).2.2.1 = some (tyJ2 k) := by decide +kernel
abbrev cJ2_newBytesFor_77867 : ByteArray := prog_26_method_2_code
def yJ2_newBytesFor_77867 : MethodName := ⟨RJ2, "newBytesFor", "(I)[B"⟩
abbrev cJ2_newBytesLength_0f7a4 : ByteArray := prog_26_method_3_code
def yJ2_newBytesLength_0f7a4 : MethodName := ⟨RJ2, "newBytesLength", "(I)I"⟩
abbrev cJ2_putChar_b72d1 : ByteArray := prog_26_method_4_code
def yJ2_putChar_b72d1 : MethodName := ⟨RJ2, "putChar", "([BII)V"⟩
abbrev cJ2_getChar_3b067 : ByteArray := prog_26_method_5_code
def yJ2_getChar_3b067 : MethodName := ⟨RJ2, "getChar", "([BI)C"⟩
abbrev cJ2_length_9d52b : ByteArray := prog_26_method_6_code
def yJ2_length_9d52b : MethodName := ⟨RJ2, "length", "([B)I"⟩
abbrev cJ2_coderFromArrayLen_85cad : ByteArray := prog_26_method_15_code
def yJ2_coderFromArrayLen_85cad : MethodName := ⟨RJ2, "coderFromArrayLen", "([BI)B"⟩
abbrev cJ2_compress_39247 : ByteArray := prog_26_method_17_code
def yJ2_compress_39247 : MethodName := ⟨RJ2, "compress", "([BII)[B"⟩
abbrev cJ2_compress_5af95 : ByteArray := prog_26_method_22_code
def yJ2_compress_5af95 : MethodName := ⟨RJ2, "compress", "([BI[BII)I"⟩
abbrev cJ2_getChars_46870 : ByteArray := prog_26_method_77_code
def yJ2_getChars_46870 : MethodName := ⟨RJ2, "getChars", "(III[B)I"⟩
abbrev cJ2_putCharsAt_cd4e5 : ByteArray := prog_26_method_81_code
def yJ2_putCharsAt_cd4e5 : MethodName := ⟨RJ2, "putCharsAt", "([BICCCC)I"⟩
abbrev cJ2_charAt_3b067 : ByteArray := prog_26_method_83_code
def yJ2_charAt_3b067 : MethodName := ⟨RJ2, "charAt", "([BI)C"⟩
abbrev cJ2_inflate_0e8fd : ByteArray := prog_26_method_86_code
def yJ2_inflate_0e8fd : MethodName := ⟨RJ2, "inflate", "([BI[BII)V"⟩
abbrev cJ2_getChars_ba4f3 : ByteArray := prog_26_method_89_code
def yJ2_getChars_ba4f3 : MethodName := ⟨RJ2, "getChars", "(II[B)I"⟩
abbrev cJ2_checkIndex_2214a : ByteArray := prog_26_method_91_code
def yJ2_checkIndex_2214a : MethodName := ⟨RJ2, "checkIndex", "(I[B)V"⟩
abbrev cJ2_checkBoundsBeginEnd_d044e : ByteArray := prog_26_method_93_code
def yJ2_checkBoundsBeginEnd_d044e : MethodName := ⟨RJ2, "checkBoundsBeginEnd", "(II[B)V"⟩
abbrev cJ2_checkBoundsOffCount_d044e : ByteArray := prog_26_method_94_code
def yJ2_checkBoundsOffCount_d044e : MethodName := ⟨RJ2, "checkBoundsOffCount", "(II[B)V"⟩
def RJ10 : String := "java/lang/System"
def TJ10 : u_T := fun k => match k with
  | _ => ("", "", "", false)
def tyJ10 : Nat → FieldType := fun k => match k with
  | _ => .int
abbrev wsJ100 : List Cond := u_ws RJ10 TJ10 0
theorem nmJ10 : ∀ a, a < 0 → ∀ b, b < 0 → a ≠ b → (TJ10 a).2.1 ≠ (TJ10 b).2.1 := by decide +kernel
theorem tyJ10_ok : ∀ k, k < 0 → parseFieldDescriptor (TJ10 k).2.2.1 = some (tyJ10 k) := by decide +kernel
def RJxfd54e : String := "java/lang/constant/Constable"
def TJxfd54e : u_T := fun k => match k with
  | _ => ("", "", "", false)
def tyJxfd54e : Nat → FieldType := fun k => match k with
  | _ => .int
abbrev wsJxfd54e0 : List Cond := u_ws RJxfd54e TJxfd54e 0
theorem nmJxfd54e : ∀ a, a < 0 → ∀ b, b < 0 → a ≠ b → (TJxfd54e a).2.1 ≠ (TJxfd54e b).2.1 := by decide +kernel
theorem tyJxfd54e_ok : ∀ k, k < 0 → parseFieldDescriptor (TJxfd54e k).2.2.1 = some (tyJxfd54e k) := by decide +kernel
def RJx3cf43 : String := "java/lang/constant/ConstantDesc"
def TJx3cf43 : u_T := fun k => match k with
  | _ => ("", "", "", false)
def tyJx3cf43 : Nat → FieldType := fun k => match k with
  | _ => .int
abbrev wsJx3cf430 : List Cond := u_ws RJx3cf43 TJx3cf43 0
theorem nmJx3cf43 : ∀ a, a < 0 → ∀ b, b < 0 → a ≠ b → (TJx3cf43 a).2.1 ≠ (TJx3cf43 b).2.1 := by decide +kernel
theorem tyJx3cf43_ok : ∀ k, k < 0 → parseFieldDescriptor (TJx3cf43 k).2.2.1 = some (tyJx3cf43 k) := by decide +kernel
def RJ7 : String := "java/util/Arrays"
def TJ7 : u_T := fun k => match k with
  | _ => ("", "", "", false)
def tyJ7 : Nat → FieldType := fun k => match k with
  | _ => .int
abbrev wsJ70 : List Cond := u_ws RJ7 TJ7 0
theorem nmJ7 : ∀ a, a < 0 → ∀ b, b < 0 → a ≠ b → (TJ7 a).2.1 ≠ (TJ7 b).2.1 := by decide +kernel
theorem tyJ7_ok : ∀ k, k < 0 → parseFieldDescriptor (TJ7 k).2.2.1 = some (tyJ7 k) := by decide +kernel
abbrev cJ7_copyOf_9075b : ByteArray := prog_29_method_121_code
def yJ7_copyOf_9075b : MethodName := ⟨RJ7, "copyOf", "([BI)[B"⟩
abbrev cJ7_checkLength_df160 : ByteArray := prog_29_method_131_code
def yJ7_checkLength_df160 : MethodName := ⟨RJ7, "checkLength", "(II)V"⟩
abbrev cJ7_copyOfRange_39247 : ByteArray := prog_29_method_132_code
def yJ7_copyOfRange_39247 : MethodName := ⟨RJ7, "copyOfRange", "([BII)[B"⟩
abbrev cJ7_copyOfRangeByte_39247 : ByteArray := prog_29_method_133_code
def yJ7_copyOfRangeByte_39247 : MethodName := ⟨RJ7, "copyOfRangeByte", "([BII)[B"⟩
def RJ8 : String := "jdk/internal/util/ArraysSupport"
def TJ8 : u_T := fun k => match k with
  | _ => ("", "", "", false)
def tyJ8 : Nat → FieldType := fun k => match k with
  | _ => .int
abbrev wsJ80 : List Cond := u_ws RJ8 TJ8 0
theorem nmJ8 : ∀ a, a < 0 → ∀ b, b < 0 → a ≠ b → (TJ8 a).2.1 ≠ (TJ8 b).2.1 := by decide +kernel
theorem tyJ8_ok : ∀ k, k < 0 → parseFieldDescriptor (TJ8 k).2.2.1 = some (tyJ8 k) := by decide +kernel
abbrev cJ8_newLength_cabcc : ByteArray := prog_30_method_27_code
def yJ8_newLength_cabcc : MethodName := ⟨RJ8, "newLength", "(III)I"⟩
abbrev cJ8_hugeLength_7cf53 : ByteArray := prog_30_method_28_code
def yJ8_hugeLength_7cf53 : MethodName := ⟨RJ8, "hugeLength", "(II)I"⟩
def RJ3 : String := "jdk/internal/util/Preconditions"
def TJ3 : u_T := fun k => match k with
  | _ => ("", "", "", false)
def tyJ3 : Nat → FieldType := fun k => match k with
  | _ => .int
abbrev wsJ30 : List Cond := u_ws RJ3 TJ3 0
theorem nmJ3 : ∀ a, a < 0 → ∀ b, b < 0 → a ≠ b → (TJ3 a).2.1 ≠ (TJ3 b).2.1 := by decide +kernel
theorem tyJ3_ok : ∀ k, k < 0 → parseFieldDescriptor (TJ3 k).2.2.1 = some (tyJ3 k) := by decide +kernel
abbrev cJ3_checkIndex_8e157 : ByteArray := prog_31_method_11_code
def yJ3_checkIndex_8e157 : MethodName := ⟨RJ3, "checkIndex", "(IILjava/util/function/BiFunction;)I"⟩
abbrev cJ3_checkFromToIndex_8c36e : ByteArray := prog_31_method_12_code
def yJ3_checkFromToIndex_8c36e : MethodName := ⟨RJ3, "checkFromToIndex", "(IIILjava/util/function/BiFunction;)I"⟩
abbrev cJ3_checkFromIndexSize_8c36e : ByteArray := prog_31_method_13_code
def yJ3_checkFromIndexSize_8c36e : MethodName := ⟨RJ3, "checkFromIndexSize", "(IIILjava/util/function/BiFunction;)I"⟩
def RL : String := "BackupPlannerLaw"
abbrev cL_cell : ByteArray := method_2_code
def yL_cell : MethodName := ⟨RL, "cell", "([II)I"⟩
abbrev cL_of : ByteArray := method_3_code
def yL_of : MethodName := ⟨RL, "of", "([IIII)I"⟩
abbrev cL_addItem : ByteArray := method_4_code
def yL_addItem : MethodName := ⟨RL, "addItem", "(LBackupPlanner;II)I"⟩
abbrev cL_removeItem : ByteArray := method_5_code
def yL_removeItem : MethodName := ⟨RL, "removeItem", "(LBackupPlanner;I)I"⟩
abbrev cL_pin : ByteArray := method_6_code
def yL_pin : MethodName := ⟨RL, "pin", "(LBackupPlanner;I)I"⟩
abbrev cL_exclude : ByteArray := method_7_code
def yL_exclude : MethodName := ⟨RL, "exclude", "(LBackupPlanner;I)I"⟩
abbrev cL_release : ByteArray := method_8_code
def yL_release : MethodName := ⟨RL, "release", "(LBackupPlanner;I)I"⟩
abbrev cL_size : ByteArray := method_9_code
def yL_size : MethodName := ⟨RL, "size", "(LBackupPlanner;I)I"⟩
abbrev cL_value : ByteArray := method_10_code
def yL_value : MethodName := ⟨RL, "value", "(LBackupPlanner;I)I"⟩
abbrev cL_age : ByteArray := method_11_code
def yL_age : MethodName := ⟨RL, "age", "(LBackupPlanner;I)I"⟩
abbrev cL_state : ByteArray := method_12_code
def yL_state : MethodName := ⟨RL, "state", "(LBackupPlanner;I)I"⟩
abbrev cL_weight : ByteArray := method_13_code
def yL_weight : MethodName := ⟨RL, "weight", "(LBackupPlanner;I)I"⟩
abbrev cL_setSize : ByteArray := method_18_code
def yL_setSize : MethodName := ⟨RL, "setSize", "(LBackupPlanner;II)I"⟩
abbrev cL_setValue : ByteArray := method_19_code
def yL_setValue : MethodName := ⟨RL, "setValue", "(LBackupPlanner;II)I"⟩
abbrev cL_setCapacity : ByteArray := method_21_code
def yL_setCapacity : MethodName := ⟨RL, "setCapacity", "(LBackupPlanner;I)I"⟩
abbrev cL_weightAt : ByteArray := method_22_code
def yL_weightAt : MethodName := ⟨RL, "weightAt", "(LBackupPlanner;I)I"⟩
abbrev cL_planAt : ByteArray := method_23_code
def yL_planAt : MethodName := ⟨RL, "planAt", "(LBackupPlanner;I)I"⟩
abbrev cL_runBackups : ByteArray := method_24_code
def yL_runBackups : MethodName := ⟨RL, "runBackups", "(LBackupPlanner;I)I"⟩
abbrev cL_cell_ : ByteArray := method_27_code
def yL_cell_ : MethodName := ⟨RL, "cell", "(LBackupPlanner;II)I"⟩
abbrev cL_pinBest : ByteArray := method_30_code
def yL_pinBest : MethodName := ⟨RL, "pinBest", "(LBackupPlanner;)I"⟩
abbrev cL_began : ByteArray := method_31_code
def yL_began : MethodName := ⟨RL, "began", "(LBackupPlanner;[I)I"⟩
abbrev cL_act : ByteArray := method_32_code
def yL_act : MethodName := ⟨RL, "act", "(LBackupPlanner;[II)V"⟩
abbrev cL_sizeOf : ByteArray := method_33_code
def yL_sizeOf : MethodName := ⟨RL, "sizeOf", "(LBackupPlanner;I)I"⟩
abbrev cL_weightOf : ByteArray := method_34_code
def yL_weightOf : MethodName := ⟨RL, "weightOf", "(LBackupPlanner;I)I"⟩
abbrev cL_isSound : ByteArray := method_35_code
def yL_isSound : MethodName := ⟨RL, "isSound", "(LBackupPlanner;)Z"⟩
abbrev cL_grows : ByteArray := method_36_code
def yL_grows : MethodName := ⟨RL, "grows", "(LBackupPlanner;I)Z"⟩
abbrev cL_seen : ByteArray := method_37_code
def yL_seen : MethodName := ⟨RL, "seen", "(LBackupPlanner;)J"⟩
abbrev cL_isAlike : ByteArray := method_38_code
def yL_isAlike : MethodName := ⟨RL, "isAlike", "(LBackupPlanner;II)Z"⟩
abbrev cL_law : ByteArray := code
def yL_law : MethodName := ⟨RL, "law", "([I)Z"⟩
abbrev vwCl : List vw_C := [(RX2, TX2, 9), (RX3, TX3, 2), (RX4, TX4, 2), (RX5, TX5, 2), (RX6, TX6, 8), (RX7, TX7, 6), (RX8, TX8, 9), (RJ0, TJ0, 4), (RJ4, TJ4, 4)]
