/-! begun with the printed names of the claim -/
def RX0 : String := "Sandglass$Chunk"
def TX0 : u_T := fun k => match k with
  | _ => ("Sandglass$Chunk", "sums", "[I", true)
def tyX0 : Nat → FieldType := fun k => match k with
  | _ => .array .int
abbrev wsX00 : List Cond := u_ws RX0 TX0 1
theorem nmX0 : ∀ a, a < 1 → ∀ b, b < 1 → a ≠ b → (TX0 a).2.1 ≠ (TX0 b).2.1 := by decide +kernel
theorem tyX0_ok : ∀ k, k < 1 → parseFieldDescriptor (TX0 k).2.2.1 = some (tyX0 k) := by decide +kernel
abbrev cX0_init : ByteArray := prog_2_method_1_code
def yX0_init : MethodName := ⟨RX0, "<init>", "()V"⟩
def RX1 : String := "Sandglass$Instruction"
def TX1 : u_T := fun k => match k with
  | 0 => ("Sandglass$Instruction", "number", "I", true)
  | 1 => ("Sandglass$Instruction", "code", "I", true)
  | 2 => ("Sandglass$Instruction", "a", "I", true)
  | _ => ("Sandglass$Instruction", "b", "I", true)
def tyX1 : Nat → FieldType := fun k => match k with
  | 0 => .int
  | 1 => .int
  | 2 => .int
  | _ => .int
abbrev wsX10 : List Cond := u_ws RX1 TX1 4
theorem nmX1 : ∀ a, a < 4 → ∀ b, b < 4 → a ≠ b → (TX1 a).2.1 ≠ (TX1 b).2.1 := by decide +kernel
theorem tyX1_ok : ∀ k, k < 4 → parseFieldDescriptor (TX1 k).2.2.1 = some (tyX1 k) := by decide +kernel
abbrev cX1_init : ByteArray := prog_3_method_1_code
def yX1_init : MethodName := ⟨RX1, "<init>", "(IIII)V"⟩
def RX2 : String := "Sandglass$Proc"
def TX2 : u_T := fun k => match k with
  | 0 => ("Sandglass$Proc", "number", "I", true)
  | 1 => ("Sandglass$Proc", "script", "LSandglass$Script;", false)
  | 2 => ("Sandglass$Proc", "rank", "I", false)
  | 3 => ("Sandglass$Proc", "place", "I", false)
  | 4 => ("Sandglass$Proc", "mark", "I", false)
  | 5 => ("Sandglass$Proc", "rest", "I", false)
  | 6 => ("Sandglass$Proc", "state", "I", false)
  | 7 => ("Sandglass$Proc", "eventTime", "I", false)
  | 8 => ("Sandglass$Proc", "eventOrder", "I", false)
  | 9 => ("Sandglass$Proc", "row", "I", false)
  | 10 => ("Sandglass$Proc", "urgency", "I", false)
  | 11 => ("Sandglass$Proc", "cameAs", "I", false)
  | 12 => ("Sandglass$Proc", "wants", "I", false)
  | 13 => ("Sandglass$Proc", "isThrownOut", "Z", false)
  | 14 => ("Sandglass$Proc", "counters", "[I", true)
  | 15 => ("Sandglass$Proc", "held", "[I", true)
  | _ => ("Sandglass$Proc", "gotAs", "[I", true)
def tyX2 : Nat → FieldType := fun k => match k with
  | 0 => .int
  | 1 => .object "Sandglass$Script"
  | 2 => .int
  | 3 => .int
  | 4 => .int
  | 5 => .int
  | 6 => .int
  | 7 => .int
  | 8 => .int
  | 9 => .int
  | 10 => .int
  | 11 => .int
  | 12 => .int
  | 13 => .boolean
  | 14 => .array .int
  | 15 => .array .int
  | _ => .array .int
abbrev wsX20 : List Cond := u_ws RX2 TX2 17
theorem nmX2 : ∀ a, a < 17 → ∀ b, b < 17 → a ≠ b → (TX2 a).2.1 ≠ (TX2 b).2.1 := by decide +kernel
theorem tyX2_ok : ∀ k, k < 17 → parseFieldDescriptor (TX2 k).2.2.1 = some (tyX2 k) := by decide +kernel
abbrev cX2_init : ByteArray := prog_4_method_1_code
def yX2_init : MethodName := ⟨RX2, "<init>", "(I)V"⟩
abbrev cX2_copyFrom : ByteArray := prog_4_method_2_code
def yX2_copyFrom : MethodName := ⟨RX2, "copyFrom", "(LSandglass$Proc;)V"⟩
abbrev cX2_isOver : ByteArray := prog_4_method_3_code
def yX2_isOver : MethodName := ⟨RX2, "isOver", "()Z"⟩
abbrev cX2_nextInstruction : ByteArray := prog_4_method_4_code
def yX2_nextInstruction : MethodName := ⟨RX2, "nextInstruction", "()LSandglass$Instruction;"⟩
abbrev cX2_goesBefore : ByteArray := prog_4_method_5_code
def yX2_goesBefore : MethodName := ⟨RX2, "goesBefore", "(LSandglass$Proc;)Z"⟩
abbrev cX2_standsBefore : ByteArray := prog_4_method_6_code
def yX2_standsBefore : MethodName := ⟨RX2, "standsBefore", "(LSandglass$Proc;)Z"⟩
abbrev cX2_yieldsBefore : ByteArray := prog_4_method_7_code
def yX2_yieldsBefore : MethodName := ⟨RX2, "yieldsBefore", "(LSandglass$Proc;I)Z"⟩
abbrev cX2_heldInAll : ByteArray := prog_4_method_8_code
def yX2_heldInAll : MethodName := ⟨RX2, "heldInAll", "()I"⟩
def RX3 : String := "Sandglass$Resource"
def TX3 : u_T := fun k => match k with
  | 0 => ("Sandglass$Resource", "number", "I", true)
  | 1 => ("Sandglass$Resource", "kind", "I", true)
  | 2 => ("Sandglass$Resource", "units", "I", true)
  | 3 => ("Sandglass$Resource", "unheld", "I", false)
  | 4 => ("Sandglass$Resource", "busyTicks", "I", false)
  | 5 => ("Sandglass$Resource", "queueTicks", "I", false)
  | _ => ("Sandglass$Resource", "longestQueue", "I", false)
def tyX3 : Nat → FieldType := fun k => match k with
  | 0 => .int
  | 1 => .int
  | 2 => .int
  | 3 => .int
  | 4 => .int
  | 5 => .int
  | _ => .int
abbrev wsX30 : List Cond := u_ws RX3 TX3 7
theorem nmX3 : ∀ a, a < 7 → ∀ b, b < 7 → a ≠ b → (TX3 a).2.1 ≠ (TX3 b).2.1 := by decide +kernel
theorem tyX3_ok : ∀ k, k < 7 → parseFieldDescriptor (TX3 k).2.2.1 = some (tyX3 k) := by decide +kernel
abbrev cX3_init : ByteArray := prog_5_method_1_code
def yX3_init : MethodName := ⟨RX3, "<init>", "(III)V"⟩
abbrev cX3_copyFrom : ByteArray := prog_5_method_2_code
def yX3_copyFrom : MethodName := ⟨RX3, "copyFrom", "(LSandglass$Resource;)V"⟩
def RX4 : String := "Sandglass$Script"
def TX4 : u_T := fun k => match k with
  | 0 => ("Sandglass$Script", "instructions", "Ljava/util/ArrayList;", true)
  | _ => ("Sandglass$Script", "handler", "I", false)
def tyX4 : Nat → FieldType := fun k => match k with
  | 0 => .object "java/util/ArrayList"
  | _ => .int
abbrev wsX40 : List Cond := u_ws RX4 TX4 2
theorem nmX4 : ∀ a, a < 2 → ∀ b, b < 2 → a ≠ b → (TX4 a).2.1 ≠ (TX4 b).2.1 := by decide +kernel
theorem tyX4_ok : ∀ k, k < 2 → parseFieldDescriptor (TX4 k).2.2.1 = some (tyX4 k) := by decide +kernel
abbrev cX4_init : ByteArray := prog_6_method_1_code
def yX4_init : MethodName := ⟨RX4, "<init>", "()V"⟩
abbrev cX4_instructionAt : ByteArray := prog_6_method_2_code
def yX4_instructionAt : MethodName := ⟨RX4, "instructionAt", "(I)LSandglass$Instruction;"⟩
def RX5 : String := "Sandglass$Store"
def TX5 : u_T := fun k => match k with
  | 0 => ("Sandglass$Store", "number", "I", true)
  | 1 => ("Sandglass$Store", "room", "I", true)
  | 2 => ("Sandglass$Store", "stock", "I", false)
  | _ => ("Sandglass$Store", "stockTicks", "I", false)
def tyX5 : Nat → FieldType := fun k => match k with
  | 0 => .int
  | 1 => .int
  | 2 => .int
  | _ => .int
abbrev wsX50 : List Cond := u_ws RX5 TX5 4
theorem nmX5 : ∀ a, a < 4 → ∀ b, b < 4 → a ≠ b → (TX5 a).2.1 ≠ (TX5 b).2.1 := by decide +kernel
theorem tyX5_ok : ∀ k, k < 4 → parseFieldDescriptor (TX5 k).2.2.1 = some (tyX5 k) := by decide +kernel
abbrev cX5_init : ByteArray := prog_7_method_1_code
def yX5_init : MethodName := ⟨RX5, "<init>", "(III)V"⟩
abbrev cX5_copyFrom : ByteArray := prog_7_method_2_code
def yX5_copyFrom : MethodName := ⟨RX5, "copyFrom", "(LSandglass$Store;)V"⟩
abbrev cX5_row : ByteArray := prog_7_method_3_code
def yX5_row : MethodName := ⟨RX5, "row", "(Z)I"⟩
abbrev cX5_allows : ByteArray := prog_7_method_4_code
def yX5_allows : MethodName := ⟨RX5, "allows", "(I)Z"⟩
def RX6 : String := "Sandglass$Tally"
def TX6 : u_T := fun k => match k with
  | 0 => ("Sandglass$Tally", "batch", "I", true)
  | 1 => ("Sandglass$Tally", "count", "I", false)
  | 2 => ("Sandglass$Tally", "sum", "I", false)
  | 3 => ("Sandglass$Tally", "least", "I", false)
  | 4 => ("Sandglass$Tally", "greatest", "I", false)
  | 5 => ("Sandglass$Tally", "latest", "I", false)
  | 6 => ("Sandglass$Tally", "open", "I", false)
  | 7 => ("Sandglass$Tally", "openSum", "I", false)
  | 8 => ("Sandglass$Tally", "full", "I", false)
  | _ => ("Sandglass$Tally", "chunks", "Ljava/util/ArrayList;", true)
def tyX6 : Nat → FieldType := fun k => match k with
  | 0 => .int
  | 1 => .int
  | 2 => .int
  | 3 => .int
  | 4 => .int
  | 5 => .int
  | 6 => .int
  | 7 => .int
  | 8 => .int
  | _ => .object "java/util/ArrayList"
abbrev wsX60 : List Cond := u_ws RX6 TX6 10
theorem nmX6 : ∀ a, a < 10 → ∀ b, b < 10 → a ≠ b → (TX6 a).2.1 ≠ (TX6 b).2.1 := by decide +kernel
theorem tyX6_ok : ∀ k, k < 10 → parseFieldDescriptor (TX6 k).2.2.1 = some (tyX6 k) := by decide +kernel
abbrev cX6_init : ByteArray := prog_8_method_1_code
def yX6_init : MethodName := ⟨RX6, "<init>", "(I)V"⟩
abbrev cX6_take : ByteArray := prog_8_method_2_code
def yX6_take : MethodName := ⟨RX6, "take", "(I)V"⟩
abbrev cX6_keep : ByteArray := prog_8_method_3_code
def yX6_keep : MethodName := ⟨RX6, "keep", "(I)V"⟩
abbrev cX6_sumAt : ByteArray := prog_8_method_4_code
def yX6_sumAt : MethodName := ⟨RX6, "sumAt", "(I)I"⟩
abbrev cX6_variance : ByteArray := prog_8_method_5_code
def yX6_variance : MethodName := ⟨RX6, "variance", "()D"⟩
abbrev cX6_overBar : ByteArray := prog_8_method_6_code
def yX6_overBar : MethodName := ⟨RX6, "overBar", "(JJJJ)D"⟩
abbrev cX6_lowPart : ByteArray := prog_8_method_7_code
def yX6_lowPart : MethodName := ⟨RX6, "lowPart", "(JI)J"⟩
def RX7 : String := "Sandglass$World"
def TX7 : u_T := fun k => match k with
  | 0 => ("Sandglass$World", "scripts", "Ljava/util/ArrayList;", true)
  | 1 => ("Sandglass$World", "tallies", "Ljava/util/ArrayList;", true)
  | 2 => ("Sandglass$World", "resources", "Ljava/util/ArrayList;", true)
  | 3 => ("Sandglass$World", "stores", "Ljava/util/ArrayList;", true)
  | 4 => ("Sandglass$World", "processes", "[LSandglass$Proc;", true)
  | 5 => ("Sandglass$World", "started", "I", false)
  | 6 => ("Sandglass$World", "time", "I", false)
  | 7 => ("Sandglass$World", "luck", "I", false)
  | 8 => ("Sandglass$World", "done", "I", false)
  | _ => ("Sandglass$World", "order", "I", false)
def tyX7 : Nat → FieldType := fun k => match k with
  | 0 => .object "java/util/ArrayList"
  | 1 => .object "java/util/ArrayList"
  | 2 => .object "java/util/ArrayList"
  | 3 => .object "java/util/ArrayList"
  | 4 => .array (.object "Sandglass$Proc")
  | 5 => .int
  | 6 => .int
  | 7 => .int
  | 8 => .int
  | _ => .int
abbrev wsX70 : List Cond := u_ws RX7 TX7 10
theorem nmX7 : ∀ a, a < 10 → ∀ b, b < 10 → a ≠ b → (TX7 a).2.1 ≠ (TX7 b).2.1 := by decide +kernel
theorem tyX7_ok : ∀ k, k < 10 → parseFieldDescriptor (TX7 k).2.2.1 = some (tyX7 k) := by decide +kernel
abbrev cX7_init : ByteArray := prog_9_method_1_code
def yX7_init : MethodName := ⟨RX7, "<init>", "(Ljava/util/ArrayList;Ljava/util/ArrayList;)V"⟩
abbrev cX7_copyFrom : ByteArray := prog_9_method_2_code
def yX7_copyFrom : MethodName := ⟨RX7, "copyFrom", "(LSandglass$World;)V"⟩
abbrev cX7_resource : ByteArray := prog_9_method_3_code
def yX7_resource : MethodName := ⟨RX7, "resource", "(I)LSandglass$Resource;"⟩
abbrev cX7_store : ByteArray := prog_9_method_4_code
def yX7_store : MethodName := ⟨RX7, "store", "(I)LSandglass$Store;"⟩
abbrev cX7_tally : ByteArray := prog_9_method_5_code
def yX7_tally : MethodName := ⟨RX7, "tally", "(I)LSandglass$Tally;"⟩
abbrev cX7_script : ByteArray := prog_9_method_6_code
def yX7_script : MethodName := ⟨RX7, "script", "(I)LSandglass$Script;"⟩
abbrev cX7_process : ByteArray := prog_9_method_7_code
def yX7_process : MethodName := ⟨RX7, "process", "(I)LSandglass$Proc;"⟩
abbrev cX7_hasStarted : ByteArray := prog_9_method_8_code
def yX7_hasStarted : MethodName := ⟨RX7, "hasStarted", "(LSandglass$Script;)Z"⟩
abbrev cX7_begin : ByteArray := prog_9_method_9_code
def yX7_begin : MethodName := ⟨RX7, "begin", "(LSandglass$Script;II)V"⟩
abbrev cX7_schedule : ByteArray := prog_9_method_10_code
def yX7_schedule : MethodName := ⟨RX7, "schedule", "(LSandglass$Proc;II)V"⟩
abbrev cX7_interruptOne : ByteArray := prog_9_method_11_code
def yX7_interruptOne : MethodName := ⟨RX7, "interruptOne", "(LSandglass$Proc;)V"⟩
abbrev cX7_finish : ByteArray := prog_9_method_12_code
def yX7_finish : MethodName := ⟨RX7, "finish", "(LSandglass$Proc;I)V"⟩
abbrev cX7_countEvents : ByteArray := prog_9_method_13_code
def yX7_countEvents : MethodName := ⟨RX7, "countEvents", "()I"⟩
abbrev cX7_nextToGo : ByteArray := prog_9_method_14_code
def yX7_nextToGo : MethodName := ⟨RX7, "nextToGo", "()LSandglass$Proc;"⟩
abbrev cX7_hasEventBy : ByteArray := prog_9_method_15_code
def yX7_hasEventBy : MethodName := ⟨RX7, "hasEventBy", "(I)Z"⟩
abbrev cX7_goTo : ByteArray := prog_9_method_16_code
def yX7_goTo : MethodName := ⟨RX7, "goTo", "(I)V"⟩
abbrev cX7_runFor : ByteArray := prog_9_method_17_code
def yX7_runFor : MethodName := ⟨RX7, "runFor", "(I)I"⟩
abbrev cX7_runToEndOf : ByteArray := prog_9_method_18_code
def yX7_runToEndOf : MethodName := ⟨RX7, "runToEndOf", "(II)I"⟩
abbrev cX7_happen : ByteArray := prog_9_method_19_code
def yX7_happen : MethodName := ⟨RX7, "happen", "()LSandglass$Proc;"⟩
abbrev cX7_obey : ByteArray := prog_9_method_20_code
def yX7_obey : MethodName := ⟨RX7, "obey", "(LSandglass$Proc;LSandglass$Instruction;)V"⟩
abbrev cX7_drawBelow : ByteArray := prog_9_method_21_code
def yX7_drawBelow : MethodName := ⟨RX7, "drawBelow", "(I)I"⟩
abbrev cX7_wakeAll : ByteArray := prog_9_method_22_code
def yX7_wakeAll : MethodName := ⟨RX7, "wakeAll", "(I)V"⟩
abbrev cX7_tell : ByteArray := prog_9_method_23_code
def yX7_tell : MethodName := ⟨RX7, "tell", "(LSandglass$Tally;I)V"⟩
abbrev cX7_goAgain : ByteArray := prog_9_method_24_code
def yX7_goAgain : MethodName := ⟨RX7, "goAgain", "(LSandglass$Proc;LSandglass$Instruction;)V"⟩
abbrev cX7_skip : ByteArray := prog_9_method_25_code
def yX7_skip : MethodName := ⟨RX7, "skip", "(LSandglass$Proc;LSandglass$Store;I)V"⟩
abbrev cX7_enter : ByteArray := prog_9_method_26_code
def yX7_enter : MethodName := ⟨RX7, "enter", "(LSandglass$Proc;II)V"⟩
abbrev cX7_leave : ByteArray := prog_9_method_27_code
def yX7_leave : MethodName := ⟨RX7, "leave", "(LSandglass$Proc;)V"⟩
abbrev cX7_countIn : ByteArray := prog_9_method_28_code
def yX7_countIn : MethodName := ⟨RX7, "countIn", "(I)I"⟩
abbrev cX7_firstIn : ByteArray := prog_9_method_29_code
def yX7_firstIn : MethodName := ⟨RX7, "firstIn", "(I)LSandglass$Proc;"⟩
abbrev cX7_inRowAt : ByteArray := prog_9_method_30_code
def yX7_inRowAt : MethodName := ⟨RX7, "inRowAt", "(II)LSandglass$Proc;"⟩
abbrev cX7_countBefore : ByteArray := prog_9_method_31_code
def yX7_countBefore : MethodName := ⟨RX7, "countBefore", "(LSandglass$Proc;)I"⟩
abbrev cX7_seize : ByteArray := prog_9_method_32_code
def yX7_seize : MethodName := ⟨RX7, "seize", "(LSandglass$Proc;LSandglass$Resource;I)V"⟩
abbrev cX7_queueUp : ByteArray := prog_9_method_33_code
def yX7_queueUp : MethodName := ⟨RX7, "queueUp", "(LSandglass$Proc;LSandglass$Resource;IZ)V"⟩
abbrev cX7_giveUnits : ByteArray := prog_9_method_34_code
def yX7_giveUnits : MethodName := ⟨RX7, "giveUnits", "(LSandglass$Proc;LSandglass$Resource;)V"⟩
abbrev cX7_unitsToTake : ByteArray := prog_9_method_35_code
def yX7_unitsToTake : MethodName := ⟨RX7, "unitsToTake", "(LSandglass$Proc;LSandglass$Proc;LSandglass$Resource;)I"⟩
abbrev cX7_unitsOfVictims : ByteArray := prog_9_method_36_code
def yX7_unitsOfVictims : MethodName := ⟨RX7, "unitsOfVictims", "(LSandglass$Proc;LSandglass$Resource;)I"⟩
abbrev cX7_nextVictim : ByteArray := prog_9_method_37_code
def yX7_nextVictim : MethodName := ⟨RX7, "nextVictim", "(LSandglass$Proc;LSandglass$Resource;)LSandglass$Proc;"⟩
abbrev cX7_throwOut : ByteArray := prog_9_method_38_code
def yX7_throwOut : MethodName := ⟨RX7, "throwOut", "(LSandglass$Proc;LSandglass$Resource;)V"⟩
abbrev cX7_release : ByteArray := prog_9_method_39_code
def yX7_release : MethodName := ⟨RX7, "release", "(LSandglass$Proc;LSandglass$Resource;I)V"⟩
abbrev cX7_serve : ByteArray := prog_9_method_40_code
def yX7_serve : MethodName := ⟨RX7, "serve", "(LSandglass$Resource;)V"⟩
abbrev cX7_exchange : ByteArray := prog_9_method_41_code
def yX7_exchange : MethodName := ⟨RX7, "exchange", "(LSandglass$Proc;LSandglass$Store;IZ)V"⟩
abbrev cX7_goOnWith : ByteArray := prog_9_method_42_code
def yX7_goOnWith : MethodName := ⟨RX7, "goOnWith", "(LSandglass$Store;)V"⟩
def RX8 : String := "Sandglass"
def TX8 : u_T := fun k => match k with
  | 0 => ("Sandglass", "scripts", "Ljava/util/ArrayList;", true)
  | 1 => ("Sandglass", "tallies", "Ljava/util/ArrayList;", true)
  | 2 => ("Sandglass", "world", "LSandglass$World;", true)
  | _ => ("Sandglass", "trial", "LSandglass$World;", true)
def tyX8 : Nat → FieldType := fun k => match k with
  | 0 => .object "java/util/ArrayList"
  | 1 => .object "java/util/ArrayList"
  | 2 => .object "Sandglass$World"
  | _ => .object "Sandglass$World"
abbrev wsX80 : List Cond := u_ws RX8 TX8 4
theorem nmX8 : ∀ a, a < 4 → ∀ b, b < 4 → a ≠ b → (TX8 a).2.1 ≠ (TX8 b).2.1 := by decide +kernel
theorem tyX8_ok : ∀ k, k < 4 → parseFieldDescriptor (TX8 k).2.2.1 = some (tyX8 k) := by decide +kernel
abbrev cX8_init : ByteArray := prog_1_method_1_code
def yX8_init : MethodName := ⟨RX8, "<init>", "()V"⟩
abbrev cX8_addResource : ByteArray := prog_1_method_2_code
def yX8_addResource : MethodName := ⟨RX8, "addResource", "(II)I"⟩
abbrev cX8_addStore : ByteArray := prog_1_method_3_code
def yX8_addStore : MethodName := ⟨RX8, "addStore", "(II)I"⟩
abbrev cX8_addTally : ByteArray := prog_1_method_4_code
def yX8_addTally : MethodName := ⟨RX8, "addTally", "(I)I"⟩
abbrev cX8_addScript : ByteArray := prog_1_method_5_code
def yX8_addScript : MethodName := ⟨RX8, "addScript", "()I"⟩
abbrev cX8_add : ByteArray := prog_1_method_6_code
def yX8_add : MethodName := ⟨RX8, "add", "(IIII)I"⟩
abbrev cX8_setHandler : ByteArray := prog_1_method_7_code
def yX8_setHandler : MethodName := ⟨RX8, "setHandler", "(II)I"⟩
abbrev cX8_setLuck : ByteArray := prog_1_method_8_code
def yX8_setLuck : MethodName := ⟨RX8, "setLuck", "(I)I"⟩
abbrev cX8_start : ByteArray := prog_1_method_9_code
def yX8_start : MethodName := ⟨RX8, "start", "(III)I"⟩
abbrev cX8_step : ByteArray := prog_1_method_10_code
def yX8_step : MethodName := ⟨RX8, "step", "()I"⟩
abbrev cX8_interrupt : ByteArray := prog_1_method_12_code
def yX8_interrupt : MethodName := ⟨RX8, "interrupt", "(I)I"⟩
abbrev cX8_cancel : ByteArray := prog_1_method_13_code
def yX8_cancel : MethodName := ⟨RX8, "cancel", "(I)I"⟩
abbrev cX8_time : ByteArray := prog_1_method_14_code
def yX8_time : MethodName := ⟨RX8, "time", "()I"⟩
abbrev cX8_luck : ByteArray := prog_1_method_15_code
def yX8_luck : MethodName := ⟨RX8, "luck", "()I"⟩
abbrev cX8_events : ByteArray := prog_1_method_16_code
def yX8_events : MethodName := ⟨RX8, "events", "()I"⟩
abbrev cX8_nextTime : ByteArray := prog_1_method_17_code
def yX8_nextTime : MethodName := ⟨RX8, "nextTime", "()I"⟩
abbrev cX8_processes : ByteArray := prog_1_method_18_code
def yX8_processes : MethodName := ⟨RX8, "processes", "()I"⟩
abbrev cX8_done : ByteArray := prog_1_method_19_code
def yX8_done : MethodName := ⟨RX8, "done", "()I"⟩
abbrev cX8_stateOf : ByteArray := prog_1_method_20_code
def yX8_stateOf : MethodName := ⟨RX8, "stateOf", "(I)I"⟩
abbrev cX8_placeOf : ByteArray := prog_1_method_21_code
def yX8_placeOf : MethodName := ⟨RX8, "placeOf", "(I)I"⟩
abbrev cX8_rankOf : ByteArray := prog_1_method_22_code
def yX8_rankOf : MethodName := ⟨RX8, "rankOf", "(I)I"⟩
abbrev cX8_restOf : ByteArray := prog_1_method_23_code
def yX8_restOf : MethodName := ⟨RX8, "restOf", "(I)I"⟩
abbrev cX8_markOf : ByteArray := prog_1_method_24_code
def yX8_markOf : MethodName := ⟨RX8, "markOf", "(I)I"⟩
abbrev cX8_eventOf : ByteArray := prog_1_method_25_code
def yX8_eventOf : MethodName := ⟨RX8, "eventOf", "(I)I"⟩
abbrev cX8_holds : ByteArray := prog_1_method_26_code
def yX8_holds : MethodName := ⟨RX8, "holds", "(II)I"⟩
abbrev cX8_free : ByteArray := prog_1_method_27_code
def yX8_free : MethodName := ⟨RX8, "free", "(I)I"⟩
abbrev cX8_queued : ByteArray := prog_1_method_28_code
def yX8_queued : MethodName := ⟨RX8, "queued", "(I)I"⟩
abbrev cX8_queuedAt : ByteArray := prog_1_method_29_code
def yX8_queuedAt : MethodName := ⟨RX8, "queuedAt", "(II)I"⟩
abbrev cX8_busy : ByteArray := prog_1_method_30_code
def yX8_busy : MethodName := ⟨RX8, "busy", "(I)I"⟩
abbrev cX8_queueing : ByteArray := prog_1_method_31_code
def yX8_queueing : MethodName := ⟨RX8, "queueing", "(I)I"⟩
abbrev cX8_longest : ByteArray := prog_1_method_32_code
def yX8_longest : MethodName := ⟨RX8, "longest", "(I)I"⟩
abbrev cX8_level : ByteArray := prog_1_method_33_code
def yX8_level : MethodName := ⟨RX8, "level", "(I)I"⟩
abbrev cX8_blocked : ByteArray := prog_1_method_34_code
def yX8_blocked : MethodName := ⟨RX8, "blocked", "(IZ)I"⟩
abbrev cX8_area : ByteArray := prog_1_method_35_code
def yX8_area : MethodName := ⟨RX8, "area", "(I)I"⟩
abbrev cX8_awaiting : ByteArray := prog_1_method_36_code
def yX8_awaiting : MethodName := ⟨RX8, "awaiting", "(I)I"⟩
abbrev cX8_tallied : ByteArray := prog_1_method_37_code
def yX8_tallied : MethodName := ⟨RX8, "tallied", "(I)I"⟩
abbrev cX8_ofTally : ByteArray := prog_1_method_38_code
def yX8_ofTally : MethodName := ⟨RX8, "ofTally", "(II)I"⟩
abbrev cX8_batches : ByteArray := prog_1_method_39_code
def yX8_batches : MethodName := ⟨RX8, "batches", "(I)I"⟩
abbrev cX8_sumOf : ByteArray := prog_1_method_40_code
def yX8_sumOf : MethodName := ⟨RX8, "sumOf", "(II)I"⟩
abbrev cX8_spread : ByteArray := prog_1_method_41_code
def yX8_spread : MethodName := ⟨RX8, "spread", "(I)D"⟩
abbrev cX8_endOf : ByteArray := prog_1_method_42_code
def yX8_endOf : MethodName := ⟨RX8, "endOf", "(II)I"⟩
abbrev cX8_wouldBeBusy : ByteArray := prog_1_method_43_code
def yX8_wouldBeBusy : MethodName := ⟨RX8, "wouldBeBusy", "(II)I"⟩
abbrev cX8_digest : ByteArray := prog_1_method_44_code
def yX8_digest : MethodName := ⟨RX8, "digest", "()J"⟩
abbrev cX8_mix : ByteArray := prog_1_method_45_code
def yX8_mix : MethodName := ⟨RX8, "mix", "(JI)J"⟩
abbrev cX8_mixProcesses : ByteArray := prog_1_method_46_code
def yX8_mixProcesses : MethodName := ⟨RX8, "mixProcesses", "(J)J"⟩
abbrev cX8_mixResources : ByteArray := prog_1_method_47_code
def yX8_mixResources : MethodName := ⟨RX8, "mixResources", "(J)J"⟩
abbrev cX8_mixStores : ByteArray := prog_1_method_48_code
def yX8_mixStores : MethodName := ⟨RX8, "mixStores", "(J)J"⟩
abbrev cX8_mixTallies : ByteArray := prog_1_method_49_code
def yX8_mixTallies : MethodName := ⟨RX8, "mixTallies", "(J)J"⟩
abbrev cX8_isIn : ByteArray := prog_1_method_50_code
def yX8_isIn : MethodName := ⟨RX8, "isIn", "(III)Z"⟩
abbrev cX8_isSignal : ByteArray := prog_1_method_51_code
def yX8_isSignal : MethodName := ⟨RX8, "isSignal", "(I)Z"⟩
abbrev cX8_isInstruction : ByteArray := prog_1_method_52_code
def yX8_isInstruction : MethodName := ⟨RX8, "isInstruction", "(III)Z"⟩
abbrev cX8_demandResource : ByteArray := prog_1_method_53_code
def yX8_demandResource : MethodName := ⟨RX8, "demandResource", "(I)LSandglass$Resource;"⟩
abbrev cX8_demandStore : ByteArray := prog_1_method_54_code
def yX8_demandStore : MethodName := ⟨RX8, "demandStore", "(I)LSandglass$Store;"⟩
abbrev cX8_demandTally : ByteArray := prog_1_method_55_code
def yX8_demandTally : MethodName := ⟨RX8, "demandTally", "(I)LSandglass$Tally;"⟩
abbrev cX8_demandScript : ByteArray := prog_1_method_56_code
def yX8_demandScript : MethodName := ⟨RX8, "demandScript", "(I)LSandglass$Script;"⟩
abbrev cX8_demandProcess : ByteArray := prog_1_method_57_code
def yX8_demandProcess : MethodName := ⟨RX8, "demandProcess", "(I)LSandglass$Proc;"⟩
abbrev cX8_at : ByteArray := prog_1_method_58_code
def yX8_at : MethodName := ⟨RX8, "at", "([II)I"⟩
abbrev cX8_set : ByteArray := prog_1_method_59_code
def yX8_set : MethodName := ⟨RX8, "set", "([III)V"⟩
abbrev cX8_copyRow : ByteArray := prog_1_method_60_code
def yX8_copyRow : MethodName := ⟨RX8, "copyRow", "([I[I)V"⟩
def RX9 : String := "SandglassLaw$Sim"
def TX9 : u_T := fun k => match k with
  | 0 => ("SandglassLaw$Sim", "script", "[[[I", true)
  | 1 => ("SandglassLaw$Sim", "handler", "[I", true)
  | 2 => ("SandglassLaw$Sim", "kind", "[I", true)
  | 3 => ("SandglassLaw$Sim", "units", "[I", true)
  | 4 => ("SandglassLaw$Sim", "free", "[I", true)
  | 5 => ("SandglassLaw$Sim", "room", "[I", true)
  | 6 => ("SandglassLaw$Sim", "level", "[I", true)
  | 7 => ("SandglassLaw$Sim", "time", "I", false)
  | 8 => ("SandglassLaw$Sim", "made", "I", false)
  | 9 => ("SandglassLaw$Sim", "luck", "I", false)
  | 10 => ("SandglassLaw$Sim", "done", "I", false)
  | 11 => ("SandglassLaw$Sim", "many", "I", false)
  | 12 => ("SandglassLaw$Sim", "of", "[I", true)
  | 13 => ("SandglassLaw$Sim", "rank", "[I", true)
  | 14 => ("SandglassLaw$Sim", "place", "[I", true)
  | 15 => ("SandglassLaw$Sim", "mark", "[I", true)
  | 16 => ("SandglassLaw$Sim", "rest", "[I", true)
  | 17 => ("SandglassLaw$Sim", "state", "[I", true)
  | 18 => ("SandglassLaw$Sim", "when", "[I", true)
  | 19 => ("SandglassLaw$Sim", "order", "[I", true)
  | 20 => ("SandglassLaw$Sim", "wants", "[I", true)
  | 21 => ("SandglassLaw$Sim", "where", "[I", true)
  | 22 => ("SandglassLaw$Sim", "isOut", "[Z", true)
  | 23 => ("SandglassLaw$Sim", "count", "[[I", true)
  | 24 => ("SandglassLaw$Sim", "has", "[[I", true)
  | 25 => ("SandglassLaw$Sim", "got", "[[I", true)
  | 26 => ("SandglassLaw$Sim", "row", "[[I", true)
  | 27 => ("SandglassLaw$Sim", "long0", "[I", true)
  | 28 => ("SandglassLaw$Sim", "rankIn", "[I", true)
  | 29 => ("SandglassLaw$Sim", "busy", "[I", true)
  | 30 => ("SandglassLaw$Sim", "waited", "[I", true)
  | 31 => ("SandglassLaw$Sim", "longest", "[I", true)
  | 32 => ("SandglassLaw$Sim", "area", "[I", true)
  | 33 => ("SandglassLaw$Sim", "tallied", "[[I", true)
  | _ => ("SandglassLaw$Sim", "tallies", "[I", true)
def tyX9 : Nat → FieldType := fun k => match k with
  | 0 => .array (.array (.array .int))
  | 1 => .array .int
  | 2 => .array .int
  | 3 => .array .int
  | 4 => .array .int
  | 5 => .array .int
  | 6 => .array .int
  | 7 => .int
  | 8 => .int
  | 9 => .int
  | 10 => .int
  | 11 => .int
  | 12 => .array .int
  | 13 => .array .int
  | 14 => .array .int
  | 15 => .array .int
  | 16 => .array .int
  | 17 => .array .int
  | 18 => .array .int
  | 19 => .array .int
  | 20 => .array .int
  | 21 => .array .int
  | 22 => .array .boolean
  | 23 => .array (.array .int)
  | 24 => .array (.array .int)
  | 25 => .array (.array .int)
  | 26 => .array (.array .int)
  | 27 => .array .int
  | 28 => .array .int
  | 29 => .array .int
  | 30 => .array .int
  | 31 => .array .int
  | 32 => .array .int
  | 33 => .array (.array .int)
  | _ => .array .int
abbrev wsX90 : List Cond := u_ws RX9 TX9 35
theorem nmX9 : ∀ a, a < 35 → ∀ b, b < 35 → a ≠ b → (TX9 a).2.1 ≠ (TX9 b).2.1 := by decide +kernel
theorem tyX9_ok : ∀ k, k < 35 → parseFieldDescriptor (TX9 k).2.2.1 = some (tyX9 k) := by decide +kernel
abbrev cX9_init : ByteArray := prog_11_method_1_code
def yX9_init : MethodName := ⟨RX9, "<init>", "([[[I[I[I[I[I[I)V"⟩
def RX10 : String := "SandglassModel$Process"
def TX10 : u_T := fun k => match k with
  | _ => ("", "", "", false)
def tyX10 : Nat → FieldType := fun k => match k with
  | _ => .int
abbrev wsX100 : List Cond := u_ws RX10 TX10 0
theorem nmX10 : ∀ a, a < 0 → ∀ b, b < 0 → a ≠ b → (TX10 a).2.1 ≠ (TX10 b).2.1 := by decide +kernel
theorem tyX10_ok : ∀ k, k < 0 → parseFieldDescriptor (TX10 k).2.2.1 = some (tyX10 k) := by decide +kernel
def RX11 : String := "SandglassModel$Script"
def TX11 : u_T := fun k => match k with
  | _ => ("", "", "", false)
def tyX11 : Nat → FieldType := fun k => match k with
  | _ => .int
abbrev wsX110 : List Cond := u_ws RX11 TX11 0
theorem nmX11 : ∀ a, a < 0 → ∀ b, b < 0 → a ≠ b → (TX11 a).2.1 ≠ (TX11 b).2.1 := by decide +kernel
theorem tyX11_ok : ∀ k, k < 0 → parseFieldDescriptor (TX11 k).2.2.1 = some (tyX11 k) := by decide +kernel
def RX12 : String := "SandglassModel$Tally"
def TX12 : u_T := fun k => match k with
  | _ => ("", "", "", false)
def tyX12 : Nat → FieldType := fun k => match k with
  | _ => .int
abbrev wsX120 : List Cond := u_ws RX12 TX12 0
theorem nmX12 : ∀ a, a < 0 → ∀ b, b < 0 → a ≠ b → (TX12 a).2.1 ≠ (TX12 b).2.1 := by decide +kernel
theorem tyX12_ok : ∀ k, k < 0 → parseFieldDescriptor (TX12 k).2.2.1 = some (tyX12 k) := by decide +kernel
def RX13 : String := "SandglassModel$World"
def TX13 : u_T := fun k => match k with
  | _ => ("", "", "", false)
def tyX13 : Nat → FieldType := fun k => match k with
  | _ => .int
abbrev wsX130 : List Cond := u_ws RX13 TX13 0
theorem nmX13 : ∀ a, a < 0 → ∀ b, b < 0 → a ≠ b → (TX13 a).2.1 ≠ (TX13 b).2.1 := by decide +kernel
theorem tyX13_ok : ∀ k, k < 0 → parseFieldDescriptor (TX13 k).2.2.1 = some (tyX13 k) := by decide +kernel
def RX14 : String := "SandglassModel"
def TX14 : u_T := fun k => match k with
  | _ => ("", "", "", false)
def tyX14 : Nat → FieldType := fun k => match k with
  | _ => .int
abbrev wsX140 : List Cond := u_ws RX14 TX14 0
theorem nmX14 : ∀ a, a < 0 → ∀ b, b < 0 → a ≠ b → (TX14 a).2.1 ≠ (TX14 b).2.1 := by decide +kernel
theorem tyX14_ok : ∀ k, k < 0 → parseFieldDescriptor (TX14 k).2.2.1 = some (tyX14 k) := by decide +kernel
def RJx145de : String := "java/io/Serializable"
def TJx145de : u_T := fun k => match k with
  | _ => ("", "", "", false)
def tyJx145de : Nat → FieldType := fun k => match k with
  | _ => .int
abbrev wsJx145de0 : List Cond := u_ws RJx145de TJx145de 0
theorem nmJx145de : ∀ a, a < 0 → ∀ b, b < 0 → a ≠ b → (TJx145de a).2.1 ≠ (TJx145de b).2.1 := by decide +kernel
theorem tyJx145de_ok : ∀ k, k < 0 → parseFieldDescriptor (TJx145de k).2.2.1 = some (tyJx145de k) := by decide +kernel
def RJx8e188 : String := "java/lang/Cloneable"
def TJx8e188 : u_T := fun k => match k with
  | _ => ("", "", "", false)
def tyJx8e188 : Nat → FieldType := fun k => match k with
  | _ => .int
abbrev wsJx8e1880 : List Cond := u_ws RJx8e188 TJx8e188 0
theorem nmJx8e188 : ∀ a, a < 0 → ∀ b, b < 0 → a ≠ b → (TJx8e188 a).2.1 ≠ (TJx8e188 b).2.1 := by decide +kernel
theorem tyJx8e188_ok : ∀ k, k < 0 → parseFieldDescriptor (TJx8e188 k).2.2.1 = some (tyJx8e188 k) := by decide +kernel
def RJxab1ab : String := "java/lang/Iterable"
def TJxab1ab : u_T := fun k => match k with
  | _ => ("", "", "", false)
def tyJxab1ab : Nat → FieldType := fun k => match k with
  | _ => .int
abbrev wsJxab1ab0 : List Cond := u_ws RJxab1ab TJxab1ab 0
theorem nmJxab1ab : ∀ a, a < 0 → ∀ b, b < 0 → a ≠ b → (TJxab1ab a).2.1 ≠ (TJxab1ab b).2.1 := by decide +kernel
theorem tyJxab1ab_ok : ∀ k, k < 0 → parseFieldDescriptor (TJxab1ab k).2.2.1 = some (tyJxab1ab k) := by decide +kernel
def RJ9 : String := "java/lang/Math"
def TJ9 : u_T := fun k => match k with
  | _ => ("", "", "", false)
def tyJ9 : Nat → FieldType := fun k => match k with
  | _ => .int
abbrev wsJ90 : List Cond := u_ws RJ9 TJ9 0
theorem nmJ9 : ∀ a, a < 0 → ∀ b, b < 0 → a ≠ b → (TJ9 a).2.1 ≠ (TJ9 b).2.1 := by decide +kernel
theorem tyJ9_ok : ∀ k, k < 0 → parseFieldDescriptor (TJ9 k).2.2.1 = some (tyJ9 k) := by decide +kernel
abbrev cJ9_max_7cf53 : ByteArray := prog_24_method_65_code
def yJ9_max_7cf53 : MethodName := ⟨RJ9, "max", "(II)I"⟩
abbrev cJ9_min_7cf53 : ByteArray := prog_24_method_69_code
def yJ9_min_7cf53 : MethodName := ⟨RJ9, "min", "(II)I"⟩
def RJ0 : String := "java/lang/String"
def TJ0 : u_T := fun k => match k with
  | _ => ("", "", "", false)
def tyJ0 : Nat → FieldType := fun k => match k with
  | _ => .int
abbrev wsJ00 : List Cond := u_ws RJ0 TJ0 0
theorem nmJ0 : ∀ a, a < 0 → ∀ b, b < 0 → a ≠ b → (TJ0 a).2.1 ≠ (TJ0 b).2.1 := by decide +kernel
theorem tyJ0_ok : ∀ k, k < 0 → parseFieldDescriptor (TJ0 k).2.2.1 = some (tyJ0 k) := by decide +kernel
def RJ10 : String := "java/lang/System"
def TJ10 : u_T := fun k => match k with
  | _ => ("", "", "", false)
def tyJ10 : Nat → FieldType := fun k => match k with
  | _ => .int
abbrev wsJ100 : List Cond := u_ws RJ10 TJ10 0
theorem nmJ10 : ∀ a, a < 0 → ∀ b, b < 0 → a ≠ b → (TJ10 a).2.1 ≠ (TJ10 b).2.1 := by decide +kernel
theorem tyJ10_ok : ∀ k, k < 0 → parseFieldDescriptor (TJ10 k).2.2.1 = some (tyJ10 k) := by decide +kernel
def RJxa1e45 : String := "java/util/AbstractCollection"
def TJxa1e45 : u_T := fun k => match k with
  | _ => ("", "", "", false)
def tyJxa1e45 : Nat → FieldType := fun k => match k with
  | _ => .int
abbrev wsJxa1e450 : List Cond := u_ws RJxa1e45 TJxa1e45 0
theorem nmJxa1e45 : ∀ a, a < 0 → ∀ b, b < 0 → a ≠ b → (TJxa1e45 a).2.1 ≠ (TJxa1e45 b).2.1 := by decide +kernel
theorem tyJxa1e45_ok : ∀ k, k < 0 → parseFieldDescriptor (TJxa1e45 k).2.2.1 = some (tyJxa1e45 k) := by decide +kernel
abbrev cJxa1e45_init_da8c8 : ByteArray := prog_29_method_1_code
def yJxa1e45_init_da8c8 : MethodName := ⟨RJxa1e45, "<init>", "()V"⟩
def RJxc12de : String := "java/util/AbstractList"
def TJxc12de : u_T := fun k => match k with
  | _ => ("", "", "", false)
def tyJxc12de : Nat → FieldType := fun k => match k with
  | _ => .int
abbrev wsJxc12de0 : List Cond := u_ws RJxc12de TJxc12de 0
theorem nmJxc12de : ∀ a, a < 0 → ∀ b, b < 0 → a ≠ b → (TJxc12de a).2.1 ≠ (TJxc12de b).2.1 := by decide +kernel
theorem tyJxc12de_ok : ∀ k, k < 0 → parseFieldDescriptor (TJxc12de k).2.2.1 = some (tyJxc12de k) := by decide +kernel
abbrev cJxc12de_init_da8c8 : ByteArray := prog_30_method_1_code
def yJxc12de_init_da8c8 : MethodName := ⟨RJxc12de, "<init>", "()V"⟩
def RJx4a65c : String := "java/util/ArrayList"
def TJx4a65c : u_T := fun k => match k with
  | 0 => ("java/util/AbstractList", "modCount", "I", false)
  | 1 => ("java/util/ArrayList", "elementData", "[Ljava/lang/Object;", false)
  | _ => ("java/util/ArrayList", "size", "I", false)
def tyJx4a65c : Nat → FieldType := fun k => match k with
  | 0 => .int
  | 1 => .array (.object "java/lang/Object")
  | _ => .int
abbrev wsJx4a65c0 : List Cond := u_ws RJx4a65c TJx4a65c 3
theorem nmJx4a65c : ∀ a, a < 3 → ∀ b, b < 3 → a ≠ b → (TJx4a65c a).2.1 ≠ (TJx4a65c b).2.1 := by decide +kernel
theorem tyJx4a65c_ok : ∀ k, k < 3 → parseFieldDescriptor (TJx4a65c k).2.2.1 = some (tyJx4a65c k) := by decide +kernel
abbrev cJx4a65c_init_da8c8 : ByteArray := prog_31_method_2_code
def yJx4a65c_init_da8c8 : MethodName := ⟨RJx4a65c, "<init>", "()V"⟩
abbrev cJx4a65c_grow_92f84 : ByteArray := prog_31_method_6_code
def yJx4a65c_grow_92f84 : MethodName := ⟨RJx4a65c, "grow", "(I)[Ljava/lang/Object;"⟩
abbrev cJx4a65c_grow_d5877 : ByteArray := prog_31_method_7_code
def yJx4a65c_grow_d5877 : MethodName := ⟨RJx4a65c, "grow", "()[Ljava/lang/Object;"⟩
abbrev cJx4a65c_size_8abf5 : ByteArray := prog_31_method_8_code
def yJx4a65c_size_8abf5 : MethodName := ⟨RJx4a65c, "size", "()I"⟩
abbrev cJx4a65c_isEmpty_aae02 : ByteArray := prog_31_method_9_code
def yJx4a65c_isEmpty_aae02 : MethodName := ⟨RJx4a65c, "isEmpty", "()Z"⟩
abbrev cJx4a65c_elementData_915e3 : ByteArray := prog_31_method_18_code
def yJx4a65c_elementData_915e3 : MethodName := ⟨RJx4a65c, "elementData", "(I)Ljava/lang/Object;"⟩
abbrev cJx4a65c_get_915e3 : ByteArray := prog_31_method_20_code
def yJx4a65c_get_915e3 : MethodName := ⟨RJx4a65c, "get", "(I)Ljava/lang/Object;"⟩
abbrev cJx4a65c_add_72be8 : ByteArray := prog_31_method_24_code
def yJx4a65c_add_72be8 : MethodName := ⟨RJx4a65c, "add", "(Ljava/lang/Object;[Ljava/lang/Object;I)V"⟩
abbrev cJx4a65c_add_9ea2d : ByteArray := prog_31_method_25_code
def yJx4a65c_add_9ea2d : MethodName := ⟨RJx4a65c, "add", "(Ljava/lang/Object;)Z"⟩
def RJ7 : String := "java/util/Arrays"
def TJ7 : u_T := fun k => match k with
  | _ => ("", "", "", false)
def tyJ7 : Nat → FieldType := fun k => match k with
  | _ => .int
abbrev wsJ70 : List Cond := u_ws RJ7 TJ7 0
theorem nmJ7 : ∀ a, a < 0 → ∀ b, b < 0 → a ≠ b → (TJ7 a).2.1 ≠ (TJ7 b).2.1 := by decide +kernel
theorem tyJ7_ok : ∀ k, k < 0 → parseFieldDescriptor (TJ7 k).2.2.1 = some (tyJ7 k) := by decide +kernel
abbrev cJ7_copyOf_1904c : ByteArray := prog_32_method_119_code
def yJ7_copyOf_1904c : MethodName := ⟨RJ7, "copyOf", "([Ljava/lang/Object;I)[Ljava/lang/Object;"⟩
abbrev cJ7_copyOf_6403c : ByteArray := prog_32_method_120_code
def yJ7_copyOf_6403c : MethodName := ⟨RJ7, "copyOf", "([Ljava/lang/Object;ILjava/lang/Class;)[Ljava/lang/Object;"⟩
def RJx5ef63 : String := "java/util/Collection"
def TJx5ef63 : u_T := fun k => match k with
  | _ => ("", "", "", false)
def tyJx5ef63 : Nat → FieldType := fun k => match k with
  | _ => .int
abbrev wsJx5ef630 : List Cond := u_ws RJx5ef63 TJx5ef63 0
theorem nmJx5ef63 : ∀ a, a < 0 → ∀ b, b < 0 → a ≠ b → (TJx5ef63 a).2.1 ≠ (TJx5ef63 b).2.1 := by decide +kernel
theorem tyJx5ef63_ok : ∀ k, k < 0 → parseFieldDescriptor (TJx5ef63 k).2.2.1 = some (tyJx5ef63 k) := by decide +kernel
def RJxbd725 : String := "java/util/List"
def TJxbd725 : u_T := fun k => match k with
  | _ => ("", "", "", false)
def tyJxbd725 : Nat → FieldType := fun k => match k with
  | _ => .int
abbrev wsJxbd7250 : List Cond := u_ws RJxbd725 TJxbd725 0
theorem nmJxbd725 : ∀ a, a < 0 → ∀ b, b < 0 → a ≠ b → (TJxbd725 a).2.1 ≠ (TJxbd725 b).2.1 := by decide +kernel
theorem tyJxbd725_ok : ∀ k, k < 0 → parseFieldDescriptor (TJxbd725 k).2.2.1 = some (tyJxbd725 k) := by decide +kernel
def RJ15 : String := "java/util/Objects"
def TJ15 : u_T := fun k => match k with
  | _ => ("", "", "", false)
def tyJ15 : Nat → FieldType := fun k => match k with
  | _ => .int
abbrev wsJ150 : List Cond := u_ws RJ15 TJ15 0
theorem nmJ15 : ∀ a, a < 0 → ∀ b, b < 0 → a ≠ b → (TJ15 a).2.1 ≠ (TJ15 b).2.1 := by decide +kernel
theorem tyJ15_ok : ∀ k, k < 0 → parseFieldDescriptor (TJ15 k).2.2.1 = some (tyJ15 k) := by decide +kernel
abbrev cJ15_checkIndex_7cf53 : ByteArray := prog_35_method_17_code
def yJ15_checkIndex_7cf53 : MethodName := ⟨RJ15, "checkIndex", "(II)I"⟩
def RJxf0a74 : String := "java/util/RandomAccess"
def TJxf0a74 : u_T := fun k => match k with
  | _ => ("", "", "", false)
def tyJxf0a74 : Nat → FieldType := fun k => match k with
  | _ => .int
abbrev wsJxf0a740 : List Cond := u_ws RJxf0a74 TJxf0a74 0
theorem nmJxf0a74 : ∀ a, a < 0 → ∀ b, b < 0 → a ≠ b → (TJxf0a74 a).2.1 ≠ (TJxf0a74 b).2.1 := by decide +kernel
theorem tyJxf0a74_ok : ∀ k, k < 0 → parseFieldDescriptor (TJxf0a74 k).2.2.1 = some (tyJxf0a74 k) := by decide +kernel
def RJxa66e6 : String := "java/util/SequencedCollection"
def TJxa66e6 : u_T := fun k => match k with
  | _ => ("", "", "", false)
def tyJxa66e6 : Nat → FieldType := fun k => match k with
  | _ => .int
abbrev wsJxa66e60 : List Cond := u_ws RJxa66e6 TJxa66e6 0
theorem nmJxa66e6 : ∀ a, a < 0 → ∀ b, b < 0 → a ≠ b → (TJxa66e6 a).2.1 ≠ (TJxa66e6 b).2.1 := by decide +kernel
theorem tyJxa66e6_ok : ∀ k, k < 0 → parseFieldDescriptor (TJxa66e6 k).2.2.1 = some (tyJxa66e6 k) := by decide +kernel
def RJ8 : String := "jdk/internal/util/ArraysSupport"
def TJ8 : u_T := fun k => match k with
  | _ => ("", "", "", false)
def tyJ8 : Nat → FieldType := fun k => match k with
  | _ => .int
abbrev wsJ80 : List Cond := u_ws RJ8 TJ8 0
theorem nmJ8 : ∀ a, a < 0 → ∀ b, b < 0 → a ≠ b → (TJ8 a).2.1 ≠ (TJ8 b).2.1 := by decide +kernel
theorem tyJ8_ok : ∀ k, k < 0 → parseFieldDescriptor (TJ8 k).2.2.1 = some (tyJ8 k) := by decide +kernel
abbrev cJ8_newLength_cabcc : ByteArray := prog_38_method_27_code
def yJ8_newLength_cabcc : MethodName := ⟨RJ8, "newLength", "(III)I"⟩
abbrev cJ8_hugeLength_7cf53 : ByteArray := prog_38_method_28_code
def yJ8_hugeLength_7cf53 : MethodName := ⟨RJ8, "hugeLength", "(II)I"⟩
def RJ3 : String := "jdk/internal/util/Preconditions"
def TJ3 : u_T := fun k => match k with
  | _ => ("", "", "", false)
def tyJ3 : Nat → FieldType := fun k => match k with
  | _ => .int
abbrev wsJ30 : List Cond := u_ws RJ3 TJ3 0
theorem nmJ3 : ∀ a, a < 0 → ∀ b, b < 0 → a ≠ b → (TJ3 a).2.1 ≠ (TJ3 b).2.1 := by decide +kernel
theorem tyJ3_ok : ∀ k, k < 0 → parseFieldDescriptor (TJ3 k).2.2.1 = some (tyJ3 k) := by decide +kernel
abbrev cJ3_checkIndex_8e157 : ByteArray := prog_39_method_11_code
def yJ3_checkIndex_8e157 : MethodName := ⟨RJ3, "checkIndex", "(IILjava/util/function/BiFunction;)I"⟩
def RL : String := "SandglassLaw"
abbrev cL_below : ByteArray := method_2_code
def yL_below : MethodName := ⟨RL, "below", "(II)I"⟩
abbrev cL_cell : ByteArray := method_3_code
def yL_cell : MethodName := ⟨RL, "cell", "([II)I"⟩
abbrev cL_build : ByteArray := method_4_code
def yL_build : MethodName := ⟨RL, "build", "(LSandglass;[II[I[I)LSandglassLaw$Sim;"⟩
abbrev cL_isSound : ByteArray := method_5_code
def yL_isSound : MethodName := ⟨RL, "isSound", "(LSandglass;[I[I)Z"⟩
abbrev cL_law : ByteArray := code
def yL_law : MethodName := ⟨RL, "law", "([I)Z"⟩
abbrev vwCl : List vw_C := [(RJx4a65c, TJx4a65c, 3), (RX0, TX0, 1), (RX1, TX1, 4), (RX2, TX2, 17), (RX3, TX3, 7), (RX4, TX4, 2), (RX5, TX5, 4), (RX6, TX6, 10), (RX7, TX7, 10), (RX8, TX8, 4), (RX9, TX9, 35)]
