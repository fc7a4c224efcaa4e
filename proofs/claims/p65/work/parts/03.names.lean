/-! names of classes, fields and methods (printed by program for this claim) -/
def RX0 : String := "TollTrees$Gate"
def TX0 : u_T := fun k => match k with
  | 0 => ("TollTrees$Gate", "name", "J", false)
  | 1 => ("TollTrees$Gate", "opening", "I", false)
  | 2 => ("TollTrees$Gate", "closing", "I", false)
  | 3 => ("TollTrees$Gate", "limit", "I", false)
  | 4 => ("TollTrees$Gate", "counts", "[I", true)
  | _ => ("TollTrees$Gate", "tree", "LTollTrees$Tree;", true)
def tyX0 : Nat → FieldType := fun k => match k with
  | 0 => .long
  | 1 => .int
  | 2 => .int
  | 3 => .int
  | 4 => .array .int
  | _ => .object "TollTrees$Tree"
theorem nmX0 : ∀ a, a < 6 → ∀ b, b < 6 → a ≠ b → (TX0 a).2.1 ≠ (TX0 b).2.1 := by decide +kernel
theorem tyX0_ok : ∀ k, k < 6 → parseFieldDescriptor (TX0 k).2.2.1 = some (tyX0 k) := by decide +kernel
abbrev cX0_init : ByteArray := prog_2_method_1_code
def yX0_init : MethodName := ⟨RX0, "<init>", "()V"⟩
abbrev cX0_copyFrom : ByteArray := prog_2_method_2_code
def yX0_copyFrom : MethodName := ⟨RX0, "copyFrom", "(LTollTrees$Gate;)V"⟩
abbrev cX0_opensAt : ByteArray := prog_2_method_3_code
def yX0_opensAt : MethodName := ⟨RX0, "opensAt", "(I)Z"⟩
abbrev cX0_waitFrom : ByteArray := prog_2_method_4_code
def yX0_waitFrom : MethodName := ⟨RX0, "waitFrom", "(I)I"⟩
abbrev cX0_weight : ByteArray := prog_2_method_5_code
def yX0_weight : MethodName := ⟨RX0, "weight", "(I)I"⟩
abbrev cX0_addCarts : ByteArray := prog_2_method_6_code
def yX0_addCarts : MethodName := ⟨RX0, "addCarts", "(II)V"⟩
abbrev cX0_halve : ByteArray := prog_2_method_7_code
def yX0_halve : MethodName := ⟨RX0, "halve", "()V"⟩
def RX1 : String := "TollTrees$History"
def TX1 : u_T := fun k => match k with
  | 0 => ("TollTrees$History", "states", "[LTollTrees$Station;", true)
  | 1 => ("TollTrees$History", "oldest", "I", false)
  | _ => ("TollTrees$History", "size", "I", false)
def tyX1 : Nat → FieldType := fun k => match k with
  | 0 => .array (.object "TollTrees$Station")
  | 1 => .int
  | _ => .int
theorem nmX1 : ∀ a, a < 3 → ∀ b, b < 3 → a ≠ b → (TX1 a).2.1 ≠ (TX1 b).2.1 := by decide +kernel
theorem tyX1_ok : ∀ k, k < 3 → parseFieldDescriptor (TX1 k).2.2.1 = some (tyX1 k) := by decide +kernel
abbrev cX1_init : ByteArray := prog_3_method_1_code
def yX1_init : MethodName := ⟨RX1, "<init>", "()V"⟩
abbrev cX1_remember : ByteArray := prog_3_method_2_code
def yX1_remember : MethodName := ⟨RX1, "remember", "(LTollTrees$Station;)V"⟩
abbrev cX1_recallInto : ByteArray := prog_3_method_3_code
def yX1_recallInto : MethodName := ⟨RX1, "recallInto", "(LTollTrees$Station;)V"⟩
def RX2 : String := "TollTrees$Output"
def TX2 : u_T := fun k => match k with
  | 0 => ("TollTrees$Output", "bytes", "[B", true)
  | 1 => ("TollTrees$Output", "length", "I", false)
  | 2 => ("TollTrees$Output", "waiting", "[I", true)
  | _ => ("TollTrees$Output", "waitingCount", "I", false)
def tyX2 : Nat → FieldType := fun k => match k with
  | 0 => .array .byte
  | 1 => .int
  | 2 => .array .int
  | _ => .int
theorem nmX2 : ∀ a, a < 4 → ∀ b, b < 4 → a ≠ b → (TX2 a).2.1 ≠ (TX2 b).2.1 := by decide +kernel
theorem tyX2_ok : ∀ k, k < 4 → parseFieldDescriptor (TX2 k).2.2.1 = some (tyX2 k) := by decide +kernel
abbrev cX2_init : ByteArray := prog_4_method_1_code
def yX2_init : MethodName := ⟨RX2, "<init>", "()V"⟩
def RX3 : String := "TollTrees$Reader"
def TX3 : u_T := fun k => match k with
  | 0 => ("TollTrees$Reader", "text", "[B", true)
  | 1 => ("TollTrees$Reader", "length", "I", false)
  | 2 => ("TollTrees$Reader", "errorCode", "I", false)
  | 3 => ("TollTrees$Reader", "errorOffset", "I", false)
  | 4 => ("TollTrees$Reader", "commands", "I", false)
  | 5 => ("TollTrees$Reader", "station", "LTollTrees$Station;", true)
  | 6 => ("TollTrees$Reader", "solver", "LTollTrees$Solver;", true)
  | 7 => ("TollTrees$Reader", "kind", "I", false)
  | 8 => ("TollTrees$Reader", "start", "I", false)
  | 9 => ("TollTrees$Reader", "behind", "I", false)
  | 10 => ("TollTrees$Reader", "name", "J", false)
  | _ => ("TollTrees$Reader", "number", "I", false)
def tyX3 : Nat → FieldType := fun k => match k with
  | 0 => .array .byte
  | 1 => .int
  | 2 => .int
  | 3 => .int
  | 4 => .int
  | 5 => .object "TollTrees$Station"
  | 6 => .object "TollTrees$Solver"
  | 7 => .int
  | 8 => .int
  | 9 => .int
  | 10 => .long
  | _ => .int
theorem nmX3 : ∀ a, a < 12 → ∀ b, b < 12 → a ≠ b → (TX3 a).2.1 ≠ (TX3 b).2.1 := by decide +kernel
theorem tyX3_ok : ∀ k, k < 12 → parseFieldDescriptor (TX3 k).2.2.1 = some (tyX3 k) := by decide +kernel
abbrev cX3_init : ByteArray := prog_5_method_1_code
def yX3_init : MethodName := ⟨RX3, "<init>", "(LTollTrees$Station;LTollTrees$Solver;)V"⟩
abbrev cX3_putByte : ByteArray := prog_5_method_2_code
def yX3_putByte : MethodName := ⟨RX3, "putByte", "(I)V"⟩
abbrev cX3_putInt : ByteArray := prog_5_method_3_code
def yX3_putInt : MethodName := ⟨RX3, "putInt", "(I)V"⟩
abbrev cX3_begin : ByteArray := prog_5_method_4_code
def yX3_begin : MethodName := ⟨RX3, "begin", "()V"⟩
abbrev cX3_advance : ByteArray := prog_5_method_5_code
def yX3_advance : MethodName := ⟨RX3, "advance", "()V"⟩
abbrev cX3_kindOf : ByteArray := prog_5_method_6_code
def yX3_kindOf : MethodName := ⟨RX3, "kindOf", "(I)I"⟩
abbrev cX3_readLetters : ByteArray := prog_5_method_7_code
def yX3_readLetters : MethodName := ⟨RX3, "readLetters", "()V"⟩
abbrev cX3_readDigits : ByteArray := prog_5_method_8_code
def yX3_readDigits : MethodName := ⟨RX3, "readDigits", "()V"⟩
abbrev cX3_fail : ByteArray := prog_5_method_9_code
def yX3_fail : MethodName := ⟨RX3, "fail", "(I)Z"⟩
abbrev cX3_isWord : ByteArray := prog_5_method_10_code
def yX3_isWord : MethodName := ⟨RX3, "isWord", "(Ljava/lang/String;)Z"⟩
abbrev cX3_isName : ByteArray := prog_5_method_11_code
def yX3_isName : MethodName := ⟨RX3, "isName", "()Z"⟩
abbrev cX3_takeWord : ByteArray := prog_5_method_12_code
def yX3_takeWord : MethodName := ⟨RX3, "takeWord", "(Ljava/lang/String;)Z"⟩
abbrev cX3_takeSemicolon : ByteArray := prog_5_method_13_code
def yX3_takeSemicolon : MethodName := ⟨RX3, "takeSemicolon", "()Z"⟩
abbrev cX3_isNumberIn : ByteArray := prog_5_method_14_code
def yX3_isNumberIn : MethodName := ⟨RX3, "isNumberIn", "(II)Z"⟩
abbrev cX3_takeNumber : ByteArray := prog_5_method_15_code
def yX3_takeNumber : MethodName := ⟨RX3, "takeNumber", "(II)I"⟩
abbrev cX3_isNewName : ByteArray := prog_5_method_16_code
def yX3_isNewName : MethodName := ⟨RX3, "isNewName", "(I)Z"⟩
abbrev cX3_isKnownName : ByteArray := prog_5_method_17_code
def yX3_isKnownName : MethodName := ⟨RX3, "isKnownName", "(I)Z"⟩
abbrev cX3_takeKnown : ByteArray := prog_5_method_18_code
def yX3_takeKnown : MethodName := ⟨RX3, "takeKnown", "(I)I"⟩
abbrev cX3_readSetup : ByteArray := prog_5_method_19_code
def yX3_readSetup : MethodName := ⟨RX3, "readSetup", "()Z"⟩
abbrev cX3_readQuestions : ByteArray := prog_5_method_20_code
def yX3_readQuestions : MethodName := ⟨RX3, "readQuestions", "()Z"⟩
abbrev cX3_readQuestion : ByteArray := prog_5_method_21_code
def yX3_readQuestion : MethodName := ⟨RX3, "readQuestion", "(I)Z"⟩
abbrev cX3_readCarts : ByteArray := prog_5_method_22_code
def yX3_readCarts : MethodName := ⟨RX3, "readCarts", "()Z"⟩
abbrev cX3_readCart : ByteArray := prog_5_method_23_code
def yX3_readCart : MethodName := ⟨RX3, "readCart", "(I)Z"⟩
abbrev cX3_readTraits : ByteArray := prog_5_method_24_code
def yX3_readTraits : MethodName := ⟨RX3, "readTraits", "(I)Z"⟩
abbrev cX3_readGates : ByteArray := prog_5_method_25_code
def yX3_readGates : MethodName := ⟨RX3, "readGates", "()Z"⟩
abbrev cX3_readGate : ByteArray := prog_5_method_26_code
def yX3_readGate : MethodName := ⟨RX3, "readGate", "(I)Z"⟩
abbrev cX3_readCounts : ByteArray := prog_5_method_27_code
def yX3_readCounts : MethodName := ⟨RX3, "readCounts", "(LTollTrees$Gate;)Z"⟩
abbrev cX3_readCommands : ByteArray := prog_5_method_28_code
def yX3_readCommands : MethodName := ⟨RX3, "readCommands", "()Z"⟩
abbrev cX3_readCommand : ByteArray := prog_5_method_29_code
def yX3_readCommand : MethodName := ⟨RX3, "readCommand", "()Z"⟩
abbrev cX3_readPass : ByteArray := prog_5_method_30_code
def yX3_readPass : MethodName := ⟨RX3, "readPass", "()Z"⟩
abbrev cX3_readBuild : ByteArray := prog_5_method_31_code
def yX3_readBuild : MethodName := ⟨RX3, "readBuild", "()Z"⟩
abbrev cX3_readHalve : ByteArray := prog_5_method_32_code
def yX3_readHalve : MethodName := ⟨RX3, "readHalve", "()Z"⟩
abbrev cX3_readToll : ByteArray := prog_5_method_33_code
def yX3_readToll : MethodName := ⟨RX3, "readToll", "()Z"⟩
abbrev cX3_readLimit : ByteArray := prog_5_method_34_code
def yX3_readLimit : MethodName := ⟨RX3, "readLimit", "()Z"⟩
abbrev cX3_readHours : ByteArray := prog_5_method_35_code
def yX3_readHours : MethodName := ⟨RX3, "readHours", "()Z"⟩
def RX4 : String := "TollTrees$Solver"
def TX4 : u_T := fun k => match k with
  | 0 => ("TollTrees$Solver", "ranks", "[J", true)
  | 1 => ("TollTrees$Solver", "limitsNeeded", "[I", true)
  | 2 => ("TollTrees$Solver", "weights", "[I", true)
  | 3 => ("TollTrees$Solver", "sameToll", "[I", true)
  | 4 => ("TollTrees$Solver", "waitingSets", "[I", true)
  | 5 => ("TollTrees$Solver", "waitingLimits", "[I", true)
  | 6 => ("TollTrees$Solver", "waitingParents", "[I", true)
  | _ => ("TollTrees$Solver", "waiting", "I", false)
def tyX4 : Nat → FieldType := fun k => match k with
  | 0 => .array .long
  | 1 => .array .int
  | 2 => .array .int
  | 3 => .array .int
  | 4 => .array .int
  | 5 => .array .int
  | 6 => .array .int
  | _ => .int
theorem nmX4 : ∀ a, a < 8 → ∀ b, b < 8 → a ≠ b → (TX4 a).2.1 ≠ (TX4 b).2.1 := by decide +kernel
theorem tyX4_ok : ∀ k, k < 8 → parseFieldDescriptor (TX4 k).2.2.1 = some (tyX4 k) := by decide +kernel
abbrev cX4_init : ByteArray := prog_6_method_1_code
def yX4_init : MethodName := ⟨RX4, "<init>", "()V"⟩
abbrev cX4_solve : ByteArray := prog_6_method_2_code
def yX4_solve : MethodName := ⟨RX4, "solve", "(LTollTrees$Station;LTollTrees$Gate;II)V"⟩
abbrev cX4_rankOf : ByteArray := prog_6_method_3_code
def yX4_rankOf : MethodName := ⟨RX4, "rankOf", "(II)J"⟩
abbrev cX4_plant : ByteArray := prog_6_method_4_code
def yX4_plant : MethodName := ⟨RX4, "plant", "(LTollTrees$Station;LTollTrees$Gate;)V"⟩
abbrev cX4_plantNode : ByteArray := prog_6_method_5_code
def yX4_plantNode : MethodName := ⟨RX4, "plantNode", "(LTollTrees$Station;LTollTrees$Tree;I)V"⟩
abbrev cX4_await : ByteArray := prog_6_method_6_code
def yX4_await : MethodName := ⟨RX4, "await", "(III)V"⟩
abbrev cX4_weighSets : ByteArray := prog_6_method_7_code
def yX4_weighSets : MethodName := ⟨RX4, "weighSets", "(LTollTrees$Gate;I)V"⟩
abbrev cX4_groupTolls : ByteArray := prog_6_method_8_code
def yX4_groupTolls : MethodName := ⟨RX4, "groupTolls", "(LTollTrees$Station;)V"⟩
abbrev cX4_needChildren : ByteArray := prog_6_method_9_code
def yX4_needChildren : MethodName := ⟨RX4, "needChildren", "(LTollTrees$Station;II)V"⟩
abbrev cX4_fewestLeafErrors : ByteArray := prog_6_method_10_code
def yX4_fewestLeafErrors : MethodName := ⟨RX4, "fewestLeafErrors", "(LTollTrees$Station;I)I"⟩
abbrev cX4_rankSet : ByteArray := prog_6_method_11_code
def yX4_rankSet : MethodName := ⟨RX4, "rankSet", "(LTollTrees$Station;III)V"⟩
abbrev cX4_bestToll : ByteArray := prog_6_method_12_code
def yX4_bestToll : MethodName := ⟨RX4, "bestToll", "(LTollTrees$Station;I)I"⟩
def RX5 : String := "TollTrees$Station"
def TX5 : u_T := fun k => match k with
  | 0 => ("TollTrees$Station", "questionCount", "I", false)
  | 1 => ("TollTrees$Station", "typeCount", "I", false)
  | 2 => ("TollTrees$Station", "gateCount", "I", false)
  | 3 => ("TollTrees$Station", "hours", "I", false)
  | 4 => ("TollTrees$Station", "questionNames", "[J", true)
  | 5 => ("TollTrees$Station", "questionCosts", "[I", true)
  | 6 => ("TollTrees$Station", "yesTypes", "[I", true)
  | 7 => ("TollTrees$Station", "typeNames", "[J", true)
  | 8 => ("TollTrees$Station", "tolls", "[I", true)
  | 9 => ("TollTrees$Station", "gates", "[LTollTrees$Gate;", true)
  | _ => ("TollTrees$Station", "totals", "LTollTrees$Totals;", true)
def tyX5 : Nat → FieldType := fun k => match k with
  | 0 => .int
  | 1 => .int
  | 2 => .int
  | 3 => .int
  | 4 => .array .long
  | 5 => .array .int
  | 6 => .array .int
  | 7 => .array .long
  | 8 => .array .int
  | 9 => .array (.object "TollTrees$Gate")
  | _ => .object "TollTrees$Totals"
theorem nmX5 : ∀ a, a < 11 → ∀ b, b < 11 → a ≠ b → (TX5 a).2.1 ≠ (TX5 b).2.1 := by decide +kernel
theorem tyX5_ok : ∀ k, k < 11 → parseFieldDescriptor (TX5 k).2.2.1 = some (tyX5 k) := by decide +kernel
abbrev cX5_init : ByteArray := prog_7_method_1_code
def yX5_init : MethodName := ⟨RX5, "<init>", "()V"⟩
abbrev cX5_empty : ByteArray := prog_7_method_2_code
def yX5_empty : MethodName := ⟨RX5, "empty", "()V"⟩
abbrev cX5_copyFrom : ByteArray := prog_7_method_3_code
def yX5_copyFrom : MethodName := ⟨RX5, "copyFrom", "(LTollTrees$Station;)V"⟩
abbrev cX5_allTypes : ByteArray := prog_7_method_4_code
def yX5_allTypes : MethodName := ⟨RX5, "allTypes", "()I"⟩
abbrev cX5_hourOfDay : ByteArray := prog_7_method_5_code
def yX5_hourOfDay : MethodName := ⟨RX5, "hourOfDay", "()I"⟩
abbrev cX5_openGates : ByteArray := prog_7_method_6_code
def yX5_openGates : MethodName := ⟨RX5, "openGates", "()I"⟩
abbrev cX5_questionNamed : ByteArray := prog_7_method_7_code
def yX5_questionNamed : MethodName := ⟨RX5, "questionNamed", "(J)I"⟩
abbrev cX5_typeNamed : ByteArray := prog_7_method_8_code
def yX5_typeNamed : MethodName := ⟨RX5, "typeNamed", "(J)I"⟩
abbrev cX5_gateNamed : ByteArray := prog_7_method_9_code
def yX5_gateNamed : MethodName := ⟨RX5, "gateNamed", "(J)I"⟩
abbrev cX5_indexOfName : ByteArray := prog_7_method_10_code
def yX5_indexOfName : MethodName := ⟨RX5, "indexOfName", "([JIJ)I"⟩
abbrev cX5_letPass : ByteArray := prog_7_method_11_code
def yX5_letPass : MethodName := ⟨RX5, "letPass", "(III)I"⟩
abbrev cX5_costOfPath : ByteArray := prog_7_method_12_code
def yX5_costOfPath : MethodName := ⟨RX5, "costOfPath", "(II)I"⟩
abbrev cX5_errorsNow : ByteArray := prog_7_method_13_code
def yX5_errorsNow : MethodName := ⟨RX5, "errorsNow", "(I)I"⟩
abbrev cX5_workNow : ByteArray := prog_7_method_14_code
def yX5_workNow : MethodName := ⟨RX5, "workNow", "(I)I"⟩
abbrev cX5_workByTypes : ByteArray := prog_7_method_15_code
def yX5_workByTypes : MethodName := ⟨RX5, "workByTypes", "(I)I"⟩
abbrev cX5_isSplittable : ByteArray := prog_7_method_16_code
def yX5_isSplittable : MethodName := ⟨RX5, "isSplittable", "(I)Z"⟩
abbrev cX5_hasTwinWithToll : ByteArray := prog_7_method_17_code
def yX5_hasTwinWithToll : MethodName := ⟨RX5, "hasTwinWithToll", "(II)Z"⟩
def RX6 : String := "TollTrees$Totals"
def TX6 : u_T := fun k => match k with
  | 0 => ("TollTrees$Totals", "carts", "I", false)
  | 1 => ("TollTrees$Totals", "cost", "I", false)
  | 2 => ("TollTrees$Totals", "paid", "I", false)
  | 3 => ("TollTrees$Totals", "due", "I", false)
  | 4 => ("TollTrees$Totals", "overchargedCarts", "I", false)
  | 5 => ("TollTrees$Totals", "underchargedCarts", "I", false)
  | 6 => ("TollTrees$Totals", "excess", "I", false)
  | _ => ("TollTrees$Totals", "shortage", "I", false)
def tyX6 : Nat → FieldType := fun k => match k with
  | 0 => .int
  | 1 => .int
  | 2 => .int
  | 3 => .int
  | 4 => .int
  | 5 => .int
  | 6 => .int
  | _ => .int
theorem nmX6 : ∀ a, a < 8 → ∀ b, b < 8 → a ≠ b → (TX6 a).2.1 ≠ (TX6 b).2.1 := by decide +kernel
theorem tyX6_ok : ∀ k, k < 8 → parseFieldDescriptor (TX6 k).2.2.1 = some (tyX6 k) := by decide +kernel
abbrev cX6_init : ByteArray := prog_8_method_1_code
def yX6_init : MethodName := ⟨RX6, "<init>", "()V"⟩
abbrev cX6_reset : ByteArray := prog_8_method_2_code
def yX6_reset : MethodName := ⟨RX6, "reset", "()V"⟩
abbrev cX6_copyFrom : ByteArray := prog_8_method_3_code
def yX6_copyFrom : MethodName := ⟨RX6, "copyFrom", "(LTollTrees$Totals;)V"⟩
abbrev cX6_add : ByteArray := prog_8_method_4_code
def yX6_add : MethodName := ⟨RX6, "add", "(IIII)V"⟩
def RX7 : String := "TollTrees$Tree"
def TX7 : u_T := fun k => match k with
  | 0 => ("TollTrees$Tree", "size", "I", false)
  | 1 => ("TollTrees$Tree", "questions", "[I", true)
  | 2 => ("TollTrees$Tree", "tolls", "[I", true)
  | 3 => ("TollTrees$Tree", "noChildren", "[I", true)
  | _ => ("TollTrees$Tree", "types", "[I", true)
def tyX7 : Nat → FieldType := fun k => match k with
  | 0 => .int
  | 1 => .array .int
  | 2 => .array .int
  | 3 => .array .int
  | _ => .array .int
theorem nmX7 : ∀ a, a < 5 → ∀ b, b < 5 → a ≠ b → (TX7 a).2.1 ≠ (TX7 b).2.1 := by decide +kernel
theorem tyX7_ok : ∀ k, k < 5 → parseFieldDescriptor (TX7 k).2.2.1 = some (tyX7 k) := by decide +kernel
abbrev cX7_init : ByteArray := prog_9_method_1_code
def yX7_init : MethodName := ⟨RX7, "<init>", "()V"⟩
abbrev cX7_copyFrom : ByteArray := prog_9_method_2_code
def yX7_copyFrom : MethodName := ⟨RX7, "copyFrom", "(LTollTrees$Tree;)V"⟩
abbrev cX7_firstChild : ByteArray := prog_9_method_3_code
def yX7_firstChild : MethodName := ⟨RX7, "firstChild", "(I)I"⟩
abbrev cX7_leafHolding : ByteArray := prog_9_method_4_code
def yX7_leafHolding : MethodName := ⟨RX7, "leafHolding", "(I)I"⟩
abbrev cX7_tollFor : ByteArray := prog_9_method_5_code
def yX7_tollFor : MethodName := ⟨RX7, "tollFor", "(I)I"⟩
abbrev cX7_emptyLeaves : ByteArray := prog_9_method_6_code
def yX7_emptyLeaves : MethodName := ⟨RX7, "emptyLeaves", "()I"⟩
def RX8 : String := "TollTrees"
def TX8 : u_T := fun k => match k with
  | 0 => ("TollTrees", "solver", "LTollTrees$Solver;", true)
  | 1 => ("TollTrees", "present", "LTollTrees$Station;", true)
  | 2 => ("TollTrees", "draft", "LTollTrees$Station;", true)
  | 3 => ("TollTrees", "reader", "LTollTrees$Reader;", true)
  | 4 => ("TollTrees", "history", "LTollTrees$History;", true)
  | 5 => ("TollTrees", "savedStates", "[LTollTrees$Station;", true)
  | 6 => ("TollTrees", "slotUsed", "[Z", true)
  | _ => ("TollTrees", "output", "LTollTrees$Output;", true)
def tyX8 : Nat → FieldType := fun k => match k with
  | 0 => .object "TollTrees$Solver"
  | 1 => .object "TollTrees$Station"
  | 2 => .object "TollTrees$Station"
  | 3 => .object "TollTrees$Reader"
  | 4 => .object "TollTrees$History"
  | 5 => .array (.object "TollTrees$Station")
  | 6 => .array .boolean
  | _ => .object "TollTrees$Output"
theorem nmX8 : ∀ a, a < 8 → ∀ b, b < 8 → a ≠ b → (TX8 a).2.1 ≠ (TX8 b).2.1 := by decide +kernel
theorem tyX8_ok : ∀ k, k < 8 → parseFieldDescriptor (TX8 k).2.2.1 = some (tyX8 k) := by decide +kernel
abbrev cX8_init : ByteArray := prog_1_method_1_code
def yX8_init : MethodName := ⟨RX8, "<init>", "()V"⟩
abbrev cX8_append : ByteArray := prog_1_method_2_code
def yX8_append : MethodName := ⟨RX8, "append", "(IIIII)I"⟩
abbrev cX8_truncateInput : ByteArray := prog_1_method_3_code
def yX8_truncateInput : MethodName := ⟨RX8, "truncateInput", "(I)I"⟩
abbrev cX8_load : ByteArray := prog_1_method_4_code
def yX8_load : MethodName := ⟨RX8, "load", "()I"⟩
abbrev cX8_passCarts : ByteArray := prog_1_method_8_code
def yX8_passCarts : MethodName := ⟨RX8, "passCarts", "(III)I"⟩
abbrev cX8_buildTree : ByteArray := prog_1_method_9_code
def yX8_buildTree : MethodName := ⟨RX8, "buildTree", "(I)I"⟩
abbrev cX8_halveCounts : ByteArray := prog_1_method_10_code
def yX8_halveCounts : MethodName := ⟨RX8, "halveCounts", "(I)I"⟩
abbrev cX8_setToll : ByteArray := prog_1_method_11_code
def yX8_setToll : MethodName := ⟨RX8, "setToll", "(II)I"⟩
abbrev cX8_setCostLimit : ByteArray := prog_1_method_12_code
def yX8_setCostLimit : MethodName := ⟨RX8, "setCostLimit", "(II)I"⟩
abbrev cX8_advanceClock : ByteArray := prog_1_method_13_code
def yX8_advanceClock : MethodName := ⟨RX8, "advanceClock", "(I)I"⟩
abbrev cX8_undo : ByteArray := prog_1_method_14_code
def yX8_undo : MethodName := ⟨RX8, "undo", "()I"⟩
abbrev cX8_questionCount : ByteArray := prog_1_method_17_code
def yX8_questionCount : MethodName := ⟨RX8, "questionCount", "()I"⟩
abbrev cX8_typeCount : ByteArray := prog_1_method_18_code
def yX8_typeCount : MethodName := ⟨RX8, "typeCount", "()I"⟩
abbrev cX8_gateCount : ByteArray := prog_1_method_19_code
def yX8_gateCount : MethodName := ⟨RX8, "gateCount", "()I"⟩
abbrev cX8_clock : ByteArray := prog_1_method_20_code
def yX8_clock : MethodName := ⟨RX8, "clock", "()I"⟩
abbrev cX8_undoableChanges : ByteArray := prog_1_method_21_code
def yX8_undoableChanges : MethodName := ⟨RX8, "undoableChanges", "()I"⟩
abbrev cX8_questionCost : ByteArray := prog_1_method_22_code
def yX8_questionCost : MethodName := ⟨RX8, "questionCost", "(I)I"⟩
abbrev cX8_hasTrait : ByteArray := prog_1_method_23_code
def yX8_hasTrait : MethodName := ⟨RX8, "hasTrait", "(II)Z"⟩
abbrev cX8_toll : ByteArray := prog_1_method_24_code
def yX8_toll : MethodName := ⟨RX8, "toll", "(I)I"⟩
abbrev cX8_countAt : ByteArray := prog_1_method_25_code
def yX8_countAt : MethodName := ⟨RX8, "countAt", "(II)I"⟩
abbrev cX8_costLimit : ByteArray := prog_1_method_26_code
def yX8_costLimit : MethodName := ⟨RX8, "costLimit", "(I)I"⟩
abbrev cX8_isOpen : ByteArray := prog_1_method_27_code
def yX8_isOpen : MethodName := ⟨RX8, "isOpen", "(I)Z"⟩
abbrev cX8_hoursUntilOpen : ByteArray := prog_1_method_28_code
def yX8_hoursUntilOpen : MethodName := ⟨RX8, "hoursUntilOpen", "(I)I"⟩
abbrev cX8_cartsPassed : ByteArray := prog_1_method_32_code
def yX8_cartsPassed : MethodName := ⟨RX8, "cartsPassed", "()I"⟩
abbrev cX8_costAsked : ByteArray := prog_1_method_33_code
def yX8_costAsked : MethodName := ⟨RX8, "costAsked", "()I"⟩
abbrev cX8_tollsPaid : ByteArray := prog_1_method_34_code
def yX8_tollsPaid : MethodName := ⟨RX8, "tollsPaid", "()I"⟩
abbrev cX8_tollsDue : ByteArray := prog_1_method_35_code
def yX8_tollsDue : MethodName := ⟨RX8, "tollsDue", "()I"⟩
abbrev cX8_cartsOvercharged : ByteArray := prog_1_method_36_code
def yX8_cartsOvercharged : MethodName := ⟨RX8, "cartsOvercharged", "()I"⟩
abbrev cX8_cartsUndercharged : ByteArray := prog_1_method_37_code
def yX8_cartsUndercharged : MethodName := ⟨RX8, "cartsUndercharged", "()I"⟩
abbrev cX8_overcharge : ByteArray := prog_1_method_38_code
def yX8_overcharge : MethodName := ⟨RX8, "overcharge", "()I"⟩
abbrev cX8_undercharge : ByteArray := prog_1_method_39_code
def yX8_undercharge : MethodName := ⟨RX8, "undercharge", "()I"⟩
abbrev cX8_nodeCount : ByteArray := prog_1_method_40_code
def yX8_nodeCount : MethodName := ⟨RX8, "nodeCount", "(I)I"⟩
abbrev cX8_nodeQuestion : ByteArray := prog_1_method_41_code
def yX8_nodeQuestion : MethodName := ⟨RX8, "nodeQuestion", "(II)I"⟩
abbrev cX8_leafToll : ByteArray := prog_1_method_42_code
def yX8_leafToll : MethodName := ⟨RX8, "leafToll", "(II)I"⟩
abbrev cX8_yesChild : ByteArray := prog_1_method_43_code
def yX8_yesChild : MethodName := ⟨RX8, "yesChild", "(II)I"⟩
abbrev cX8_noChild : ByteArray := prog_1_method_44_code
def yX8_noChild : MethodName := ⟨RX8, "noChild", "(II)I"⟩
abbrev cX8_typesAt : ByteArray := prog_1_method_45_code
def yX8_typesAt : MethodName := ⟨RX8, "typesAt", "(II)I"⟩
abbrev cX8_leafOf : ByteArray := prog_1_method_46_code
def yX8_leafOf : MethodName := ⟨RX8, "leafOf", "(II)I"⟩
abbrev cX8_chargedToll : ByteArray := prog_1_method_47_code
def yX8_chargedToll : MethodName := ⟨RX8, "chargedToll", "(II)I"⟩
abbrev cX8_pathCost : ByteArray := prog_1_method_48_code
def yX8_pathCost : MethodName := ⟨RX8, "pathCost", "(II)I"⟩
abbrev cX8_errors : ByteArray := prog_1_method_49_code
def yX8_errors : MethodName := ⟨RX8, "errors", "(I)I"⟩
abbrev cX8_work : ByteArray := prog_1_method_50_code
def yX8_work : MethodName := ⟨RX8, "work", "(I)I"⟩
abbrev cX8_mischargeReason : ByteArray := prog_1_method_51_code
def yX8_mischargeReason : MethodName := ⟨RX8, "mischargeReason", "(II)I"⟩
abbrev cX8_bestErrors : ByteArray := prog_1_method_52_code
def yX8_bestErrors : MethodName := ⟨RX8, "bestErrors", "(II)I"⟩
abbrev cX8_bestWork : ByteArray := prog_1_method_53_code
def yX8_bestWork : MethodName := ⟨RX8, "bestWork", "(II)I"⟩
abbrev cX8_bestRootQuestion : ByteArray := prog_1_method_54_code
def yX8_bestRootQuestion : MethodName := ⟨RX8, "bestRootQuestion", "(II)I"⟩
abbrev cX8_errorsWithout : ByteArray := prog_1_method_55_code
def yX8_errorsWithout : MethodName := ⟨RX8, "errorsWithout", "(II)I"⟩
abbrev cX8_sufficientLimit : ByteArray := prog_1_method_56_code
def yX8_sufficientLimit : MethodName := ⟨RX8, "sufficientLimit", "(I)I"⟩
abbrev cX8_stalestGate : ByteArray := prog_1_method_57_code
def yX8_stalestGate : MethodName := ⟨RX8, "stalestGate", "()I"⟩
abbrev cX8_quickestGate : ByteArray := prog_1_method_58_code
def yX8_quickestGate : MethodName := ⟨RX8, "quickestGate", "(I)I"⟩
abbrev cX8_inconsistencies : ByteArray := prog_1_method_59_code
def yX8_inconsistencies : MethodName := ⟨RX8, "inconsistencies", "()I"⟩
abbrev cX8_acceptDraft : ByteArray := prog_1_method_64_code
def yX8_acceptDraft : MethodName := ⟨RX8, "acceptDraft", "()V"⟩
abbrev cX8_bestRank : ByteArray := prog_1_method_65_code
def yX8_bestRank : MethodName := ⟨RX8, "bestRank", "(II)J"⟩
abbrev cX8_requireQuestion : ByteArray := prog_1_method_66_code
def yX8_requireQuestion : MethodName := ⟨RX8, "requireQuestion", "(I)V"⟩
abbrev cX8_requireType : ByteArray := prog_1_method_67_code
def yX8_requireType : MethodName := ⟨RX8, "requireType", "(I)V"⟩
abbrev cX8_requireGate : ByteArray := prog_1_method_68_code
def yX8_requireGate : MethodName := ⟨RX8, "requireGate", "(I)V"⟩
abbrev cX8_requireNode : ByteArray := prog_1_method_69_code
def yX8_requireNode : MethodName := ⟨RX8, "requireNode", "(II)V"⟩
abbrev cX8_requireRange : ByteArray := prog_1_method_70_code
def yX8_requireRange : MethodName := ⟨RX8, "requireRange", "(III)V"⟩
abbrev cX8_holds : ByteArray := prog_1_method_71_code
def yX8_holds : MethodName := ⟨RX8, "holds", "(II)Z"⟩
abbrev cX8_errorsOf : ByteArray := prog_1_method_73_code
def yX8_errorsOf : MethodName := ⟨RX8, "errorsOf", "(J)I"⟩
abbrev cX8_workOf : ByteArray := prog_1_method_74_code
def yX8_workOf : MethodName := ⟨RX8, "workOf", "(J)I"⟩
abbrev cX8_rootOf : ByteArray := prog_1_method_75_code
def yX8_rootOf : MethodName := ⟨RX8, "rootOf", "(J)I"⟩
def RX9 : String := "TollTreesModel"
def TX9 : u_T := fun k => match k with
  | _ => ("", "", "", false)
def tyX9 : Nat → FieldType := fun k => match k with
  | _ => .int
theorem nmX9 : ∀ a, a < 0 → ∀ b, b < 0 → a ≠ b → (TX9 a).2.1 ≠ (TX9 b).2.1 := by decide +kernel
theorem tyX9_ok : ∀ k, k < 0 → parseFieldDescriptor (TX9 k).2.2.1 = some (tyX9 k) := by decide +kernel
def RJx145de : String := "java/io/Serializable"
def TJx145de : u_T := fun k => match k with
  | _ => ("", "", "", false)
def tyJx145de : Nat → FieldType := fun k => match k with
  | _ => .int
theorem nmJx145de : ∀ a, a < 0 → ∀ b, b < 0 → a ≠ b → (TJx145de a).2.1 ≠ (TJx145de b).2.1 := by decide +kernel
theorem tyJx145de_ok : ∀ k, k < 0 → parseFieldDescriptor (TJx145de k).2.2.1 = some (tyJx145de k) := by decide +kernel
def RJ5 : String := "java/lang/AbstractStringBuilder"
def TJ5 : u_T := fun k => match k with
  | _ => ("", "", "", false)
def tyJ5 : Nat → FieldType := fun k => match k with
  | _ => .int
theorem nmJ5 : ∀ a, a < 0 → ∀ b, b < 0 → a ≠ b → (TJ5 a).2.1 ≠ (TJ5 b).2.1 := by decide +kernel
theorem tyJ5_ok : ∀ k, k < 0 → parseFieldDescriptor (TJ5 k).2.2.1 = some (tyJ5 k) := by decide +kernel
abbrev cJ5_init_d00df : ByteArray := prog_12_method_2_code
def yJ5_init_d00df : MethodName := ⟨RJ5, "<init>", "(I)V"⟩
abbrev cJ5_init_a7421 : ByteArray := prog_12_method_3_code
def yJ5_init_a7421 : MethodName := ⟨RJ5, "<init>", "(Ljava/lang/String;)V"⟩
abbrev cJ5_length_8abf5 : ByteArray := prog_12_method_6_code
def yJ5_length_8abf5 : MethodName := ⟨RJ5, "length", "()I"⟩
abbrev cJ5_ensureCapacityInternal_d00df : ByteArray := prog_12_method_9_code
def yJ5_ensureCapacityInternal_d00df : MethodName := ⟨RJ5, "ensureCapacityInternal", "(I)V"⟩
abbrev cJ5_newCapacity_0f7a4 : ByteArray := prog_12_method_10_code
def yJ5_newCapacity_0f7a4 : MethodName := ⟨RJ5, "newCapacity", "(I)I"⟩
abbrev cJ5_inflate_da8c8 : ByteArray := prog_12_method_11_code
def yJ5_inflate_da8c8 : MethodName := ⟨RJ5, "inflate", "()V"⟩
abbrev cJ5_append_cf1ce : ByteArray := prog_12_method_22_code
def yJ5_append_cf1ce : MethodName := ⟨RJ5, "append", "(Ljava/lang/String;)Ljava/lang/AbstractStringBuilder;"⟩
abbrev cJ5_appendNull_278bc : ByteArray := prog_12_method_26_code
def yJ5_appendNull_278bc : MethodName := ⟨RJ5, "appendNull", "()Ljava/lang/AbstractStringBuilder;"⟩
abbrev cJ5_append_3fe6f : ByteArray := prog_12_method_31_code
def yJ5_append_3fe6f : MethodName := ⟨RJ5, "append", "(C)Ljava/lang/AbstractStringBuilder;"⟩
abbrev cJ5_append_c97b9 : ByteArray := prog_12_method_32_code
def yJ5_append_c97b9 : MethodName := ⟨RJ5, "append", "(I)Ljava/lang/AbstractStringBuilder;"⟩
abbrev cJ5_getValue_6d5f1 : ByteArray := prog_12_method_64_code
def yJ5_getValue_6d5f1 : MethodName := ⟨RJ5, "getValue", "()[B"⟩
abbrev cJ5_isLatin1_aae02 : ByteArray := prog_12_method_68_code
def yJ5_isLatin1_aae02 : MethodName := ⟨RJ5, "isLatin1", "()Z"⟩
abbrev cJ5_inflateIfNeededFor_a7421 : ByteArray := prog_12_method_71_code
def yJ5_inflateIfNeededFor_a7421 : MethodName := ⟨RJ5, "inflateIfNeededFor", "(Ljava/lang/String;)V"⟩
abbrev cJ5_putStringAt_47b60 : ByteArray := prog_12_method_73_code
def yJ5_putStringAt_47b60 : MethodName := ⟨RJ5, "putStringAt", "(ILjava/lang/String;)V"⟩
def RJx2cfe8 : String := "java/lang/Appendable"
def TJx2cfe8 : u_T := fun k => match k with
  | _ => ("", "", "", false)
def tyJx2cfe8 : Nat → FieldType := fun k => match k with
  | _ => .int
theorem nmJx2cfe8 : ∀ a, a < 0 → ∀ b, b < 0 → a ≠ b → (TJx2cfe8 a).2.1 ≠ (TJx2cfe8 b).2.1 := by decide +kernel
theorem tyJx2cfe8_ok : ∀ k, k < 0 → parseFieldDescriptor (TJx2cfe8 k).2.2.1 = some (tyJx2cfe8 k) := by decide +kernel
def RJx9f9b0 : String := "java/lang/CharSequence"
def TJx9f9b0 : u_T := fun k => match k with
  | _ => ("", "", "", false)
def tyJx9f9b0 : Nat → FieldType := fun k => match k with
  | _ => .int
theorem nmJx9f9b0 : ∀ a, a < 0 → ∀ b, b < 0 → a ≠ b → (TJx9f9b0 a).2.1 ≠ (TJx9f9b0 b).2.1 := by decide +kernel
theorem tyJx9f9b0_ok : ∀ k, k < 0 → parseFieldDescriptor (TJx9f9b0 k).2.2.1 = some (tyJx9f9b0 k) := by decide +kernel
def RJx8e188 : String := "java/lang/Cloneable"
def TJx8e188 : u_T := fun k => match k with
  | _ => ("", "", "", false)
def tyJx8e188 : Nat → FieldType := fun k => match k with
  | _ => .int
theorem nmJx8e188 : ∀ a, a < 0 → ∀ b, b < 0 → a ≠ b → (TJx8e188 a).2.1 ≠ (TJx8e188 b).2.1 := by decide +kernel
theorem tyJx8e188_ok : ∀ k, k < 0 → parseFieldDescriptor (TJx8e188 k).2.2.1 = some (tyJx8e188 k) := by decide +kernel
def RJxb160c : String := "java/lang/Comparable"
def TJxb160c : u_T := fun k => match k with
  | _ => ("", "", "", false)
def tyJxb160c : Nat → FieldType := fun k => match k with
  | _ => .int
theorem nmJxb160c : ∀ a, a < 0 → ∀ b, b < 0 → a ≠ b → (TJxb160c a).2.1 ≠ (TJxb160c b).2.1 := by decide +kernel
theorem tyJxb160c_ok : ∀ k, k < 0 → parseFieldDescriptor (TJxb160c k).2.2.1 = some (tyJxb160c k) := by decide +kernel
def RJ6 : String := "java/lang/Integer"
def TJ6 : u_T := fun k => match k with
  | _ => ("", "", "", false)
def tyJ6 : Nat → FieldType := fun k => match k with
  | _ => .int
theorem nmJ6 : ∀ a, a < 0 → ∀ b, b < 0 → a ≠ b → (TJ6 a).2.1 ≠ (TJ6 b).2.1 := by decide +kernel
theorem tyJ6_ok : ∀ k, k < 0 → parseFieldDescriptor (TJ6 k).2.2.1 = some (tyJ6 k) := by decide +kernel
abbrev cJ6_getChars_ba4f3 : ByteArray := prog_18_method_12_code
def yJ6_getChars_ba4f3 : MethodName := ⟨RJ6, "getChars", "(II[B)I"⟩
abbrev cJ6_stringSize_0f7a4 : ByteArray := prog_18_method_13_code
def yJ6_stringSize_0f7a4 : MethodName := ⟨RJ6, "stringSize", "(I)I"⟩
def RJ9 : String := "java/lang/Math"
def TJ9 : u_T := fun k => match k with
  | _ => ("", "", "", false)
def tyJ9 : Nat → FieldType := fun k => match k with
  | _ => .int
theorem nmJ9 : ∀ a, a < 0 → ∀ b, b < 0 → a ≠ b → (TJ9 a).2.1 ≠ (TJ9 b).2.1 := by decide +kernel
theorem tyJ9_ok : ∀ k, k < 0 → parseFieldDescriptor (TJ9 k).2.2.1 = some (tyJ9 k) := by decide +kernel
abbrev cJ9_abs_0f7a4 : ByteArray := prog_19_method_59_code
def yJ9_abs_0f7a4 : MethodName := ⟨RJ9, "abs", "(I)I"⟩
abbrev cJ9_max_7cf53 : ByteArray := prog_19_method_65_code
def yJ9_max_7cf53 : MethodName := ⟨RJ9, "max", "(II)I"⟩
abbrev cJ9_min_7cf53 : ByteArray := prog_19_method_69_code
def yJ9_min_7cf53 : MethodName := ⟨RJ9, "min", "(II)I"⟩
abbrev cJ9_min_f86c9 : ByteArray := prog_19_method_70_code
def yJ9_min_f86c9 : MethodName := ⟨RJ9, "min", "(JJ)J"⟩
def RJxd2413 : String := "java/lang/Number"
def TJxd2413 : u_T := fun k => match k with
  | _ => ("", "", "", false)
def tyJxd2413 : Nat → FieldType := fun k => match k with
  | _ => .int
theorem nmJxd2413 : ∀ a, a < 0 → ∀ b, b < 0 → a ≠ b → (TJxd2413 a).2.1 ≠ (TJxd2413 b).2.1 := by decide +kernel
theorem tyJxd2413_ok : ∀ k, k < 0 → parseFieldDescriptor (TJxd2413 k).2.2.1 = some (tyJxd2413 k) := by decide +kernel
def RJ0 : String := "java/lang/String"
def TJ0 : u_T := fun k => match k with
  | 0 => ("java/lang/String", "value", "[B", true)
  | 1 => ("java/lang/String", "coder", "B", true)
  | 2 => ("java/lang/String", "hash", "I", false)
  | _ => ("java/lang/String", "hashIsZero", "Z", false)
def tyJ0 : Nat → FieldType := fun k => match k with
  | 0 => .array .byte
  | 1 => .byte
  | 2 => .int
  | _ => .boolean
theorem nmJ0 : ∀ a, a < 4 → ∀ b, b < 4 → a ≠ b → (TJ0 a).2.1 ≠ (TJ0 b).2.1 := by decide +kernel
theorem tyJ0_ok : ∀ k, k < 4 → parseFieldDescriptor (TJ0 k).2.2.1 = some (tyJ0 k) := by decide +kernel
abbrev cJ0_init_81219 : ByteArray := prog_22_method_53_code
def yJ0_init_81219 : MethodName := ⟨RJ0, "<init>", "(Ljava/lang/StringBuilder;)V"⟩
abbrev cJ0_length_8abf5 : ByteArray := prog_22_method_54_code
def yJ0_length_8abf5 : MethodName := ⟨RJ0, "length", "()I"⟩
abbrev cJ0_charAt_5068e : ByteArray := prog_22_method_56_code
def yJ0_charAt_5068e : MethodName := ⟨RJ0, "charAt", "(I)C"⟩
abbrev cJ0_getBytes_840e7 : ByteArray := prog_22_method_147_code
def yJ0_getBytes_840e7 : MethodName := ⟨RJ0, "getBytes", "([BIB)V"⟩
abbrev cJ0_init_db425 : ByteArray := prog_22_method_150_code
def yJ0_init_db425 : MethodName := ⟨RJ0, "<init>", "(Ljava/lang/AbstractStringBuilder;Ljava/lang/Void;)V"⟩
abbrev cJ0_coder_7d493 : ByteArray := prog_22_method_152_code
def yJ0_coder_7d493 : MethodName := ⟨RJ0, "coder", "()B"⟩
abbrev cJ0_isLatin1_aae02 : ByteArray := prog_22_method_154_code
def yJ0_isLatin1_aae02 : MethodName := ⟨RJ0, "isLatin1", "()Z"⟩
abbrev cJ0_checkIndex_df160 : ByteArray := prog_22_method_155_code
def yJ0_checkIndex_df160 : MethodName := ⟨RJ0, "checkIndex", "(II)V"⟩
abbrev cJ0_checkBoundsOffCount_cabcc : ByteArray := prog_22_method_157_code
def yJ0_checkBoundsOffCount_cabcc : MethodName := ⟨RJ0, "checkBoundsOffCount", "(III)I"⟩
abbrev cJ0_checkBoundsBeginEnd_23922 : ByteArray := prog_22_method_158_code
def yJ0_checkBoundsBeginEnd_23922 : MethodName := ⟨RJ0, "checkBoundsBeginEnd", "(III)V"⟩
def RJ4 : String := "java/lang/StringBuilder"
def TJ4 : u_T := fun k => match k with
  | 0 => ("java/lang/AbstractStringBuilder", "value", "[B", false)
  | 1 => ("java/lang/AbstractStringBuilder", "coder", "B", false)
  | 2 => ("java/lang/AbstractStringBuilder", "maybeLatin1", "Z", false)
  | _ => ("java/lang/AbstractStringBuilder", "count", "I", false)
def tyJ4 : Nat → FieldType := fun k => match k with
  | 0 => .array .byte
  | 1 => .byte
  | 2 => .boolean
  | _ => .int
theorem nmJ4 : ∀ a, a < 4 → ∀ b, b < 4 → a ≠ b → (TJ4 a).2.1 ≠ (TJ4 b).2.1 := by decide +kernel
theorem tyJ4_ok : ∀ k, k < 4 → parseFieldDescriptor (TJ4 k).2.2.1 = some (tyJ4 k) := by decide +kernel
abbrev cJ4_init_da8c8 : ByteArray := prog_23_method_1_code
def yJ4_init_da8c8 : MethodName := ⟨RJ4, "<init>", "()V"⟩
abbrev cJ4_init_a7421 : ByteArray := prog_23_method_3_code
def yJ4_init_a7421 : MethodName := ⟨RJ4, "<init>", "(Ljava/lang/String;)V"⟩
abbrev cJ4_append_15ec4 : ByteArray := prog_23_method_7_code
def yJ4_append_15ec4 : MethodName := ⟨RJ4, "append", "(Ljava/lang/String;)Ljava/lang/StringBuilder;"⟩
abbrev cJ4_append_cf468 : ByteArray := prog_23_method_14_code
def yJ4_append_cf468 : MethodName := ⟨RJ4, "append", "(C)Ljava/lang/StringBuilder;"⟩
abbrev cJ4_append_bf812 : ByteArray := prog_23_method_15_code
def yJ4_append_bf812 : MethodName := ⟨RJ4, "append", "(I)Ljava/lang/StringBuilder;"⟩
abbrev cJ4_toString_0e30d : ByteArray := prog_23_method_42_code
def yJ4_toString_0e30d : MethodName := ⟨RJ4, "toString", "()Ljava/lang/String;"⟩
abbrev cJ4_append_cf1ce : ByteArray := prog_23_method_80_code
def yJ4_append_cf1ce : MethodName := ⟨RJ4, "append", "(Ljava/lang/String;)Ljava/lang/AbstractStringBuilder;"⟩
abbrev cJ4_length_8abf5 : ByteArray := prog_23_method_93_code
def yJ4_length_8abf5 : MethodName := ⟨RJ4, "length", "()I"⟩
def RJ1 : String := "java/lang/StringLatin1"
def TJ1 : u_T := fun k => match k with
  | _ => ("", "", "", false)
def tyJ1 : Nat → FieldType := fun k => match k with
  | _ => .int
theorem nmJ1 : ∀ a, a < 0 → ∀ b, b < 0 → a ≠ b → (TJ1 a).2.1 ≠ (TJ1 b).2.1 := by decide +kernel
theorem tyJ1_ok : ∀ k, k < 0 → parseFieldDescriptor (TJ1 k).2.2.1 = some (tyJ1 k) := by decide +kernel
abbrev cJ1_charAt_3b067 : ByteArray := prog_24_method_2_code
def yJ1_charAt_3b067 : MethodName := ⟨RJ1, "charAt", "([BI)C"⟩
abbrev cJ1_canEncode_fc78d : ByteArray := prog_24_method_3_code
def yJ1_canEncode_fc78d : MethodName := ⟨RJ1, "canEncode", "(C)Z"⟩
abbrev cJ1_inflate_0e8fd : ByteArray := prog_24_method_50_code
def yJ1_inflate_0e8fd : MethodName := ⟨RJ1, "inflate", "([BI[BII)V"⟩
def RJ2 : String := "java/lang/StringUTF16"
def TJ2 : u_T := fun k => match k with
  | _ => ("", "", "", false)
def tyJ2 : Nat → FieldType := fun k => match k with
  | _ => .int
theorem nmJ2 : ∀ a, a < 0 → ∀ b, b < 0 → a ≠ b → (TJ2 a).2.1 ≠ (TJ2 b).2.1 := by decide +kernel
theorem tyJ2_ok : ∀ k, k < 0 → parseFieldDescriptor (TJ2 k).2.2.1 = some (tyJ2 k) := by decide +kernel
abbrev cJ2_newBytesFor_77867 : ByteArray := prog_25_method_2_code
def yJ2_newBytesFor_77867 : MethodName := ⟨RJ2, "newBytesFor", "(I)[B"⟩
abbrev cJ2_newBytesLength_0f7a4 : ByteArray := prog_25_method_3_code
def yJ2_newBytesLength_0f7a4 : MethodName := ⟨RJ2, "newBytesLength", "(I)I"⟩
abbrev cJ2_putChar_b72d1 : ByteArray := prog_25_method_4_code
def yJ2_putChar_b72d1 : MethodName := ⟨RJ2, "putChar", "([BII)V"⟩
abbrev cJ2_getChar_3b067 : ByteArray := prog_25_method_5_code
def yJ2_getChar_3b067 : MethodName := ⟨RJ2, "getChar", "([BI)C"⟩
abbrev cJ2_length_9d52b : ByteArray := prog_25_method_6_code
def yJ2_length_9d52b : MethodName := ⟨RJ2, "length", "([B)I"⟩
abbrev cJ2_coderFromArrayLen_85cad : ByteArray := prog_25_method_15_code
def yJ2_coderFromArrayLen_85cad : MethodName := ⟨RJ2, "coderFromArrayLen", "([BI)B"⟩
abbrev cJ2_compress_39247 : ByteArray := prog_25_method_17_code
def yJ2_compress_39247 : MethodName := ⟨RJ2, "compress", "([BII)[B"⟩
abbrev cJ2_compress_5af95 : ByteArray := prog_25_method_22_code
def yJ2_compress_5af95 : MethodName := ⟨RJ2, "compress", "([BI[BII)I"⟩
abbrev cJ2_putCharSB_b72d1 : ByteArray := prog_25_method_71_code
def yJ2_putCharSB_b72d1 : MethodName := ⟨RJ2, "putCharSB", "([BII)V"⟩
abbrev cJ2_getChars_46870 : ByteArray := prog_25_method_77_code
def yJ2_getChars_46870 : MethodName := ⟨RJ2, "getChars", "(III[B)I"⟩
abbrev cJ2_putCharsAt_cd4e5 : ByteArray := prog_25_method_81_code
def yJ2_putCharsAt_cd4e5 : MethodName := ⟨RJ2, "putCharsAt", "([BICCCC)I"⟩
abbrev cJ2_charAt_3b067 : ByteArray := prog_25_method_83_code
def yJ2_charAt_3b067 : MethodName := ⟨RJ2, "charAt", "([BI)C"⟩
abbrev cJ2_inflate_0e8fd : ByteArray := prog_25_method_86_code
def yJ2_inflate_0e8fd : MethodName := ⟨RJ2, "inflate", "([BI[BII)V"⟩
abbrev cJ2_getChars_ba4f3 : ByteArray := prog_25_method_89_code
def yJ2_getChars_ba4f3 : MethodName := ⟨RJ2, "getChars", "(II[B)I"⟩
abbrev cJ2_checkIndex_2214a : ByteArray := prog_25_method_91_code
def yJ2_checkIndex_2214a : MethodName := ⟨RJ2, "checkIndex", "(I[B)V"⟩
abbrev cJ2_checkBoundsBeginEnd_d044e : ByteArray := prog_25_method_93_code
def yJ2_checkBoundsBeginEnd_d044e : MethodName := ⟨RJ2, "checkBoundsBeginEnd", "(II[B)V"⟩
abbrev cJ2_checkBoundsOffCount_d044e : ByteArray := prog_25_method_94_code
def yJ2_checkBoundsOffCount_d044e : MethodName := ⟨RJ2, "checkBoundsOffCount", "(II[B)V"⟩
def RJ10 : String := "java/lang/System"
def TJ10 : u_T := fun k => match k with
  | _ => ("", "", "", false)
def tyJ10 : Nat → FieldType := fun k => match k with
  | _ => .int
theorem nmJ10 : ∀ a, a < 0 → ∀ b, b < 0 → a ≠ b → (TJ10 a).2.1 ≠ (TJ10 b).2.1 := by decide +kernel
theorem tyJ10_ok : ∀ k, k < 0 → parseFieldDescriptor (TJ10 k).2.2.1 = some (tyJ10 k) := by decide +kernel
def RJxfd54e : String := "java/lang/constant/Constable"
def TJxfd54e : u_T := fun k => match k with
  | _ => ("", "", "", false)
def tyJxfd54e : Nat → FieldType := fun k => match k with
  | _ => .int
theorem nmJxfd54e : ∀ a, a < 0 → ∀ b, b < 0 → a ≠ b → (TJxfd54e a).2.1 ≠ (TJxfd54e b).2.1 := by decide +kernel
theorem tyJxfd54e_ok : ∀ k, k < 0 → parseFieldDescriptor (TJxfd54e k).2.2.1 = some (tyJxfd54e k) := by decide +kernel
def RJx3cf43 : String := "java/lang/constant/ConstantDesc"
def TJx3cf43 : u_T := fun k => match k with
  | _ => ("", "", "", false)
def tyJx3cf43 : Nat → FieldType := fun k => match k with
  | _ => .int
theorem nmJx3cf43 : ∀ a, a < 0 → ∀ b, b < 0 → a ≠ b → (TJx3cf43 a).2.1 ≠ (TJx3cf43 b).2.1 := by decide +kernel
theorem tyJx3cf43_ok : ∀ k, k < 0 → parseFieldDescriptor (TJx3cf43 k).2.2.1 = some (tyJx3cf43 k) := by decide +kernel
def RJ7 : String := "java/util/Arrays"
def TJ7 : u_T := fun k => match k with
  | _ => ("", "", "", false)
def tyJ7 : Nat → FieldType := fun k => match k with
  | _ => .int
theorem nmJ7 : ∀ a, a < 0 → ∀ b, b < 0 → a ≠ b → (TJ7 a).2.1 ≠ (TJ7 b).2.1 := by decide +kernel
theorem tyJ7_ok : ∀ k, k < 0 → parseFieldDescriptor (TJ7 k).2.2.1 = some (tyJ7 k) := by decide +kernel
abbrev cJ7_fill_53178 : ByteArray := prog_28_method_103_code
def yJ7_fill_53178 : MethodName := ⟨RJ7, "fill", "([II)V"⟩
abbrev cJ7_copyOf_9075b : ByteArray := prog_28_method_121_code
def yJ7_copyOf_9075b : MethodName := ⟨RJ7, "copyOf", "([BI)[B"⟩
abbrev cJ7_checkLength_df160 : ByteArray := prog_28_method_131_code
def yJ7_checkLength_df160 : MethodName := ⟨RJ7, "checkLength", "(II)V"⟩
abbrev cJ7_copyOfRange_39247 : ByteArray := prog_28_method_132_code
def yJ7_copyOfRange_39247 : MethodName := ⟨RJ7, "copyOfRange", "([BII)[B"⟩
abbrev cJ7_copyOfRangeByte_39247 : ByteArray := prog_28_method_133_code
def yJ7_copyOfRangeByte_39247 : MethodName := ⟨RJ7, "copyOfRangeByte", "([BII)[B"⟩
def RJ8 : String := "jdk/internal/util/ArraysSupport"
def TJ8 : u_T := fun k => match k with
  | _ => ("", "", "", false)
def tyJ8 : Nat → FieldType := fun k => match k with
  | _ => .int
theorem nmJ8 : ∀ a, a < 0 → ∀ b, b < 0 → a ≠ b → (TJ8 a).2.1 ≠ (TJ8 b).2.1 := by decide +kernel
theorem tyJ8_ok : ∀ k, k < 0 → parseFieldDescriptor (TJ8 k).2.2.1 = some (tyJ8 k) := by decide +kernel
abbrev cJ8_newLength_cabcc : ByteArray := prog_29_method_27_code
def yJ8_newLength_cabcc : MethodName := ⟨RJ8, "newLength", "(III)I"⟩
abbrev cJ8_hugeLength_7cf53 : ByteArray := prog_29_method_28_code
def yJ8_hugeLength_7cf53 : MethodName := ⟨RJ8, "hugeLength", "(II)I"⟩
def RJ3 : String := "jdk/internal/util/Preconditions"
def TJ3 : u_T := fun k => match k with
  | _ => ("", "", "", false)
def tyJ3 : Nat → FieldType := fun k => match k with
  | _ => .int
theorem nmJ3 : ∀ a, a < 0 → ∀ b, b < 0 → a ≠ b → (TJ3 a).2.1 ≠ (TJ3 b).2.1 := by decide +kernel
theorem tyJ3_ok : ∀ k, k < 0 → parseFieldDescriptor (TJ3 k).2.2.1 = some (tyJ3 k) := by decide +kernel
abbrev cJ3_checkIndex_8e157 : ByteArray := prog_30_method_11_code
def yJ3_checkIndex_8e157 : MethodName := ⟨RJ3, "checkIndex", "(IILjava/util/function/BiFunction;)I"⟩
abbrev cJ3_checkFromToIndex_8c36e : ByteArray := prog_30_method_12_code
def yJ3_checkFromToIndex_8c36e : MethodName := ⟨RJ3, "checkFromToIndex", "(IIILjava/util/function/BiFunction;)I"⟩
abbrev cJ3_checkFromIndexSize_8c36e : ByteArray := prog_30_method_13_code
def yJ3_checkFromIndexSize_8c36e : MethodName := ⟨RJ3, "checkFromIndexSize", "(IIILjava/util/function/BiFunction;)I"⟩
def RL : String := "TollTreesLaw"
abbrev cL_truncateInput : ByteArray := method_2_code
def yL_truncateInput : MethodName := ⟨RL, "truncateInput", "(LTollTrees;I)I"⟩
abbrev cL_passCarts : ByteArray := method_3_code
def yL_passCarts : MethodName := ⟨RL, "passCarts", "(LTollTrees;III)I"⟩
abbrev cL_buildTree : ByteArray := method_4_code
def yL_buildTree : MethodName := ⟨RL, "buildTree", "(LTollTrees;I)I"⟩
abbrev cL_halveCounts : ByteArray := method_5_code
def yL_halveCounts : MethodName := ⟨RL, "halveCounts", "(LTollTrees;I)I"⟩
abbrev cL_setToll : ByteArray := method_6_code
def yL_setToll : MethodName := ⟨RL, "setToll", "(LTollTrees;II)I"⟩
abbrev cL_setCostLimit : ByteArray := method_7_code
def yL_setCostLimit : MethodName := ⟨RL, "setCostLimit", "(LTollTrees;II)I"⟩
abbrev cL_advanceClock : ByteArray := method_8_code
def yL_advanceClock : MethodName := ⟨RL, "advanceClock", "(LTollTrees;I)I"⟩
abbrev cL_undo : ByteArray := method_9_code
def yL_undo : MethodName := ⟨RL, "undo", "(LTollTrees;)I"⟩
abbrev cL_questionCost : ByteArray := method_10_code
def yL_questionCost : MethodName := ⟨RL, "questionCost", "(LTollTrees;I)I"⟩
abbrev cL_hasTrait : ByteArray := method_11_code
def yL_hasTrait : MethodName := ⟨RL, "hasTrait", "(LTollTrees;II)I"⟩
abbrev cL_toll : ByteArray := method_12_code
def yL_toll : MethodName := ⟨RL, "toll", "(LTollTrees;I)I"⟩
abbrev cL_countAt : ByteArray := method_13_code
def yL_countAt : MethodName := ⟨RL, "countAt", "(LTollTrees;II)I"⟩
abbrev cL_costLimit : ByteArray := method_14_code
def yL_costLimit : MethodName := ⟨RL, "costLimit", "(LTollTrees;I)I"⟩
abbrev cL_isOpen : ByteArray := method_15_code
def yL_isOpen : MethodName := ⟨RL, "isOpen", "(LTollTrees;I)I"⟩
abbrev cL_hoursUntilOpen : ByteArray := method_16_code
def yL_hoursUntilOpen : MethodName := ⟨RL, "hoursUntilOpen", "(LTollTrees;I)I"⟩
abbrev cL_nodeCount : ByteArray := method_17_code
def yL_nodeCount : MethodName := ⟨RL, "nodeCount", "(LTollTrees;I)I"⟩
abbrev cL_nodeQuestion : ByteArray := method_18_code
def yL_nodeQuestion : MethodName := ⟨RL, "nodeQuestion", "(LTollTrees;II)I"⟩
abbrev cL_leafToll : ByteArray := method_19_code
def yL_leafToll : MethodName := ⟨RL, "leafToll", "(LTollTrees;II)I"⟩
abbrev cL_yesChild : ByteArray := method_20_code
def yL_yesChild : MethodName := ⟨RL, "yesChild", "(LTollTrees;II)I"⟩
abbrev cL_noChild : ByteArray := method_21_code
def yL_noChild : MethodName := ⟨RL, "noChild", "(LTollTrees;II)I"⟩
abbrev cL_typesAt : ByteArray := method_22_code
def yL_typesAt : MethodName := ⟨RL, "typesAt", "(LTollTrees;II)I"⟩
abbrev cL_leafOf : ByteArray := method_23_code
def yL_leafOf : MethodName := ⟨RL, "leafOf", "(LTollTrees;II)I"⟩
abbrev cL_chargedToll : ByteArray := method_24_code
def yL_chargedToll : MethodName := ⟨RL, "chargedToll", "(LTollTrees;II)I"⟩
abbrev cL_pathCost : ByteArray := method_25_code
def yL_pathCost : MethodName := ⟨RL, "pathCost", "(LTollTrees;II)I"⟩
abbrev cL_errors : ByteArray := method_26_code
def yL_errors : MethodName := ⟨RL, "errors", "(LTollTrees;I)I"⟩
abbrev cL_work : ByteArray := method_27_code
def yL_work : MethodName := ⟨RL, "work", "(LTollTrees;I)I"⟩
abbrev cL_mischargeReason : ByteArray := method_28_code
def yL_mischargeReason : MethodName := ⟨RL, "mischargeReason", "(LTollTrees;II)I"⟩
abbrev cL_bestErrors : ByteArray := method_29_code
def yL_bestErrors : MethodName := ⟨RL, "bestErrors", "(LTollTrees;II)I"⟩
abbrev cL_bestWork : ByteArray := method_30_code
def yL_bestWork : MethodName := ⟨RL, "bestWork", "(LTollTrees;II)I"⟩
abbrev cL_bestRootQuestion : ByteArray := method_31_code
def yL_bestRootQuestion : MethodName := ⟨RL, "bestRootQuestion", "(LTollTrees;II)I"⟩
abbrev cL_errorsWithout : ByteArray := method_32_code
def yL_errorsWithout : MethodName := ⟨RL, "errorsWithout", "(LTollTrees;II)I"⟩
abbrev cL_sufficientLimit : ByteArray := method_33_code
def yL_sufficientLimit : MethodName := ⟨RL, "sufficientLimit", "(LTollTrees;I)I"⟩
abbrev cL_quickestGate : ByteArray := method_34_code
def yL_quickestGate : MethodName := ⟨RL, "quickestGate", "(LTollTrees;I)I"⟩
abbrev cL_word : ByteArray := method_35_code
def yL_word : MethodName := ⟨RL, "word", "(Ljava/lang/String;I)I"⟩
abbrev cL_write : ByteArray := method_36_code
def yL_write : MethodName := ⟨RL, "write", "(LTollTrees;Ljava/lang/String;)Z"⟩
abbrev cL_draw : ByteArray := method_37_code
def yL_draw : MethodName := ⟨RL, "draw", "([II)I"⟩
abbrev cL_weight : ByteArray := method_38_code
def yL_weight : MethodName := ⟨RL, "weight", "(LTollTrees;I)I"⟩
abbrev cL_isTree : ByteArray := method_39_code
def yL_isTree : MethodName := ⟨RL, "isTree", "(LTollTrees;I)Z"⟩
abbrev cL_isSound : ByteArray := method_40_code
def yL_isSound : MethodName := ⟨RL, "isSound", "(LTollTrees;)Z"⟩
abbrev cL_builds : ByteArray := method_41_code
def yL_builds : MethodName := ⟨RL, "builds", "(LTollTrees;I)Z"⟩
abbrev cL_acts : ByteArray := method_42_code
def yL_acts : MethodName := ⟨RL, "acts", "(LTollTrees;[I)Z"⟩
abbrev cL_law : ByteArray := code
def yL_law : MethodName := ⟨RL, "law", "([I)Z"⟩
abbrev vwCl : List vw_C := [(RX0, TX0, 6), (RX1, TX1, 3), (RX2, TX2, 4), (RX3, TX3, 12), (RX4, TX4, 8), (RX5, TX5, 11), (RX6, TX6, 8), (RX7, TX7, 5), (RX8, TX8, 8), (RJ0, TJ0, 4), (RJ4, TJ4, 4)]
