/-! ===== BEGIN printed: names, fields, word lists, decode rows ===== -/
def RX0 : String := "HoseTests$HoseText"
def TX0 : u_T := fun k => match k with
  | 0 => ("HoseTests$HoseText", "codes", "[I", true)
  | _ => ("HoseTests$HoseText", "size", "I", false)
def tyX0 : Nat → FieldType := fun k => match k with
  | 0 => .array .int
  | _ => .int
abbrev wsX00 : List Cond := u_ws RX0 TX0 2
theorem nmX0 : ∀ a, a < 2 → ∀ b, b < 2 → a ≠ b → (TX0 a).2.1 ≠ (TX0 b).2.1 := by decide +kernel
theorem tyX0_ok : ∀ k, k < 2 → parseFieldDescriptor (TX0 k).2.2.1 = some (tyX0 k) := by decide +kernel
abbrev cX0_init : ByteArray := prog_2_method_1_code
def yX0_init : MethodName := ⟨RX0, "<init>", "()V"⟩
def RX1 : String := "HoseTests$Kinds"
def TX1 : u_T := fun k => match k with
  | _ => ("", "", "", false)
def tyX1 : Nat → FieldType := fun k => match k with
  | _ => .int
abbrev wsX10 : List Cond := u_ws RX1 TX1 0
theorem nmX1 : ∀ a, a < 0 → ∀ b, b < 0 → a ≠ b → (TX1 a).2.1 ≠ (TX1 b).2.1 := by decide +kernel
theorem tyX1_ok : ∀ k, k < 0 → parseFieldDescriptor (TX1 k).2.2.1 = some (tyX1 k) := by decide +kernel
abbrev cX1_strengthOf : ByteArray := prog_3_method_2_code
def yX1_strengthOf : MethodName := ⟨RX1, "strengthOf", "(III)I"⟩
abbrev cX1_lifeOf : ByteArray := prog_3_method_3_code
def yX1_lifeOf : MethodName := ⟨RX1, "lifeOf", "(I)I"⟩
abbrev cX1_daysInForce : ByteArray := prog_3_method_4_code
def yX1_daysInForce : MethodName := ⟨RX1, "daysInForce", "(I)I"⟩
abbrev cX1_costOf : ByteArray := prog_3_method_5_code
def yX1_costOf : MethodName := ⟨RX1, "costOf", "(II)I"⟩
def RX2 : String := "HoseTests$Line"
def TX2 : u_T := fun k => match k with
  | 0 => ("HoseTests$Line", "metres", "I", false)
  | 1 => ("HoseTests$Line", "adaptersUsed", "I", false)
  | 2 => ("HoseTests$Line", "mask", "I", false)
  | _ => ("HoseTests$Line", "lastCoupling", "I", false)
def tyX2 : Nat → FieldType := fun k => match k with
  | 0 => .int
  | 1 => .int
  | 2 => .int
  | _ => .int
abbrev wsX20 : List Cond := u_ws RX2 TX2 4
theorem nmX2 : ∀ a, a < 4 → ∀ b, b < 4 → a ≠ b → (TX2 a).2.1 ≠ (TX2 b).2.1 := by decide +kernel
theorem tyX2_ok : ∀ k, k < 4 → parseFieldDescriptor (TX2 k).2.2.1 = some (tyX2 k) := by decide +kernel
abbrev cX2_init : ByteArray := prog_4_method_1_code
def yX2_init : MethodName := ⟨RX2, "<init>", "()V"⟩
abbrev cX2_begin : ByteArray := prog_4_method_2_code
def yX2_begin : MethodName := ⟨RX2, "begin", "()V"⟩
abbrev cX2_join : ByteArray := prog_4_method_3_code
def yX2_join : MethodName := ⟨RX2, "join", "(IIII)V"⟩
def RX3 : String := "HoseTests$Station"
def TX3 : u_T := fun k => match k with
  | 0 => ("HoseTests$Station", "day", "I", false)
  | 1 => ("HoseTests$Station", "money", "I", false)
  | 2 => ("HoseTests$Station", "hoses", "I", false)
  | 3 => ("HoseTests$Station", "tests", "I", false)
  | 4 => ("HoseTests$Station", "bursts", "I", false)
  | 5 => ("HoseTests$Station", "paid", "I", false)
  | 6 => ("HoseTests$Station", "wanted", "[I", true)
  | 7 => ("HoseTests$Station", "settings", "[I", true)
  | 8 => ("HoseTests$Station", "kind", "[I", true)
  | 9 => ("HoseTests$Station", "length", "[I", true)
  | 10 => ("HoseTests$Station", "coupling", "[I", true)
  | 11 => ("HoseTests$Station", "made", "[I", true)
  | 12 => ("HoseTests$Station", "wear", "[I", true)
  | 13 => ("HoseTests$Station", "lastTestDay", "[I", true)
  | 14 => ("HoseTests$Station", "place", "[I", true)
  | 15 => ("HoseTests$Station", "backDay", "[I", true)
  | _ => ("HoseTests$Station", "line", "LHoseTests$Line;", true)
def tyX3 : Nat → FieldType := fun k => match k with
  | 0 => .int
  | 1 => .int
  | 2 => .int
  | 3 => .int
  | 4 => .int
  | 5 => .int
  | 6 => .array .int
  | 7 => .array .int
  | 8 => .array .int
  | 9 => .array .int
  | 10 => .array .int
  | 11 => .array .int
  | 12 => .array .int
  | 13 => .array .int
  | 14 => .array .int
  | 15 => .array .int
  | _ => .object "HoseTests$Line"
abbrev wsX30 : List Cond := u_ws RX3 TX3 17
theorem nmX3 : ∀ a, a < 17 → ∀ b, b < 17 → a ≠ b → (TX3 a).2.1 ≠ (TX3 b).2.1 := by decide +kernel
theorem tyX3_ok : ∀ k, k < 17 → parseFieldDescriptor (TX3 k).2.2.1 = some (tyX3 k) := by decide +kernel
abbrev cX3_init : ByteArray := prog_5_method_1_code
def yX3_init : MethodName := ⟨RX3, "<init>", "()V"⟩
abbrev cX3_copyFrom : ByteArray := prog_5_method_2_code
def yX3_copyFrom : MethodName := ⟨RX3, "copyFrom", "(LHoseTests$Station;)V"⟩
abbrev cX3_isGone : ByteArray := prog_5_method_3_code
def yX3_isGone : MethodName := ⟨RX3, "isGone", "(I)Z"⟩
abbrev cX3_isLent : ByteArray := prog_5_method_4_code
def yX3_isLent : MethodName := ⟨RX3, "isLent", "(I)Z"⟩
abbrev cX3_isOnTruck : ByteArray := prog_5_method_5_code
def yX3_isOnTruck : MethodName := ⟨RX3, "isOnTruck", "(I)Z"⟩
abbrev cX3_isReady : ByteArray := prog_5_method_6_code
def yX3_isReady : MethodName := ⟨RX3, "isReady", "(I)Z"⟩
abbrev cX3_reasonOf : ByteArray := prog_5_method_7_code
def yX3_reasonOf : MethodName := ⟨RX3, "reasonOf", "(I)I"⟩
abbrev cX3_strengthAt : ByteArray := prog_5_method_8_code
def yX3_strengthAt : MethodName := ⟨RX3, "strengthAt", "(II)I"⟩
abbrev cX3_priceOf : ByteArray := prog_5_method_9_code
def yX3_priceOf : MethodName := ⟨RX3, "priceOf", "(I)I"⟩
abbrev cX3_canBuy : ByteArray := prog_5_method_10_code
def yX3_canBuy : MethodName := ⟨RX3, "canBuy", "(II)Z"⟩
abbrev cX3_addHose : ByteArray := prog_5_method_11_code
def yX3_addHose : MethodName := ⟨RX3, "addHose", "(IIII)I"⟩
abbrev cX3_replaceHose : ByteArray := prog_5_method_12_code
def yX3_replaceHose : MethodName := ⟨RX3, "replaceHose", "(I)I"⟩
abbrev cX3_lendOut : ByteArray := prog_5_method_13_code
def yX3_lendOut : MethodName := ⟨RX3, "lendOut", "(II)I"⟩
abbrev cX3_stepsUpTo : ByteArray := prog_5_method_14_code
def yX3_stepsUpTo : MethodName := ⟨RX3, "stepsUpTo", "(I)I"⟩
abbrev cX3_stepsHeld : ByteArray := prog_5_method_15_code
def yX3_stepsHeld : MethodName := ⟨RX3, "stepsHeld", "(II)I"⟩
abbrev cX3_outcomeOf : ByteArray := prog_5_method_16_code
def yX3_outcomeOf : MethodName := ⟨RX3, "outcomeOf", "(II)I"⟩
abbrev cX3_runTest : ByteArray := prog_5_method_17_code
def yX3_runTest : MethodName := ⟨RX3, "runTest", "(II)I"⟩
abbrev cX3_greatestSafePressure : ByteArray := prog_5_method_18_code
def yX3_greatestSafePressure : MethodName := ⟨RX3, "greatestSafePressure", "(I)I"⟩
abbrev cX3_passDay : ByteArray := prog_5_method_19_code
def yX3_passDay : MethodName := ⟨RX3, "passDay", "()V"⟩
abbrev cX3_takeBackLent : ByteArray := prog_5_method_20_code
def yX3_takeBackLent : MethodName := ⟨RX3, "takeBackLent", "()V"⟩
abbrev cX3_wearOnTrucks : ByteArray := prog_5_method_21_code
def yX3_wearOnTrucks : MethodName := ⟨RX3, "wearOnTrucks", "()V"⟩
abbrev cX3_hosesAt : ByteArray := prog_5_method_22_code
def yX3_hosesAt : MethodName := ⟨RX3, "hosesAt", "(I)I"⟩
abbrev cX3_readyHosesAt : ByteArray := prog_5_method_23_code
def yX3_readyHosesAt : MethodName := ⟨RX3, "readyHosesAt", "(I)I"⟩
abbrev cX3_readyHoses : ByteArray := prog_5_method_24_code
def yX3_readyHoses : MethodName := ⟨RX3, "readyHoses", "()I"⟩
abbrev cX3_layLine : ByteArray := prog_5_method_25_code
def yX3_layLine : MethodName := ⟨RX3, "layLine", "(II)Z"⟩
abbrev cX3_wholeTrucks : ByteArray := prog_5_method_26_code
def yX3_wholeTrucks : MethodName := ⟨RX3, "wholeTrucks", "()I"⟩
abbrev cX3_cheapestHelp : ByteArray := prog_5_method_27_code
def yX3_cheapestHelp : MethodName := ⟨RX3, "cheapestHelp", "(I)I"⟩
abbrev cX3_daysToFirstLapse : ByteArray := prog_5_method_28_code
def yX3_daysToFirstLapse : MethodName := ⟨RX3, "daysToFirstLapse", "()I"⟩
def RX4 : String := "HoseTests"
def TX4 : u_T := fun k => match k with
  | 0 => ("HoseTests", "now", "LHoseTests$Station;", true)
  | 1 => ("HoseTests", "saved", "[LHoseTests$Station;", true)
  | 2 => ("HoseTests", "latestSaved", "I", false)
  | 3 => ("HoseTests", "savedStates", "I", false)
  | _ => ("HoseTests", "text", "LHoseTests$HoseText;", true)
def tyX4 : Nat → FieldType := fun k => match k with
  | 0 => .object "HoseTests$Station"
  | 1 => .array (.object "HoseTests$Station")
  | 2 => .int
  | 3 => .int
  | _ => .object "HoseTests$HoseText"
abbrev wsX40 : List Cond := u_ws RX4 TX4 5
theorem nmX4 : ∀ a, a < 5 → ∀ b, b < 5 → a ≠ b → (TX4 a).2.1 ≠ (TX4 b).2.1 := by decide +kernel
theorem tyX4_ok : ∀ k, k < 5 → parseFieldDescriptor (TX4 k).2.2.1 = some (tyX4 k) := by decide +kernel
abbrev cX4_init : ByteArray := prog_1_method_1_code
def yX4_init : MethodName := ⟨RX4, "<init>", "()V"⟩
abbrev cX4_buy : ByteArray := prog_1_method_2_code
def yX4_buy : MethodName := ⟨RX4, "buy", "(III)I"⟩
abbrev cX4_renew : ByteArray := prog_1_method_3_code
def yX4_renew : MethodName := ⟨RX4, "renew", "(I)I"⟩
abbrev cX4_put : ByteArray := prog_1_method_4_code
def yX4_put : MethodName := ⟨RX4, "put", "(II)I"⟩
abbrev cX4_lend : ByteArray := prog_1_method_5_code
def yX4_lend : MethodName := ⟨RX4, "lend", "(II)I"⟩
abbrev cX4_test : ByteArray := prog_1_method_6_code
def yX4_test : MethodName := ⟨RX4, "test", "(II)I"⟩
abbrev cX4_want : ByteArray := prog_1_method_7_code
def yX4_want : MethodName := ⟨RX4, "want", "(II)I"⟩
abbrev cX4_set : ByteArray := prog_1_method_8_code
def yX4_set : MethodName := ⟨RX4, "set", "(II)I"⟩
abbrev cX4_pass : ByteArray := prog_1_method_9_code
def yX4_pass : MethodName := ⟨RX4, "pass", "(I)I"⟩
abbrev cX4_undo : ByteArray := prog_1_method_14_code
def yX4_undo : MethodName := ⟨RX4, "undo", "()I"⟩
abbrev cX4_hose : ByteArray := prog_1_method_15_code
def yX4_hose : MethodName := ⟨RX4, "hose", "(II)I"⟩
abbrev cX4_truck : ByteArray := prog_1_method_16_code
def yX4_truck : MethodName := ⟨RX4, "truck", "(II)I"⟩
abbrev cX4_count : ByteArray := prog_1_method_17_code
def yX4_count : MethodName := ⟨RX4, "count", "(I)I"⟩
abbrev cX4_setting : ByteArray := prog_1_method_18_code
def yX4_setting : MethodName := ⟨RX4, "setting", "(I)I"⟩
abbrev cX4_ifTested : ByteArray := prog_1_method_19_code
def yX4_ifTested : MethodName := ⟨RX4, "ifTested", "(II)I"⟩
abbrev cX4_safe : ByteArray := prog_1_method_20_code
def yX4_safe : MethodName := ⟨RX4, "safe", "(I)I"⟩
abbrev cX4_nextLapse : ByteArray := prog_1_method_21_code
def yX4_nextLapse : MethodName := ⟨RX4, "nextLapse", "()I"⟩
abbrev cX4_helps : ByteArray := prog_1_method_22_code
def yX4_helps : MethodName := ⟨RX4, "helps", "(I)I"⟩
abbrev cX4_readyShare : ByteArray := prog_1_method_23_code
def yX4_readyShare : MethodName := ⟨RX4, "readyShare", "()D"⟩
abbrev cX4_isWithin : ByteArray := prog_1_method_25_code
def yX4_isWithin : MethodName := ⟨RX4, "isWithin", "(III)Z"⟩
abbrev cX4_requireHose : ByteArray := prog_1_method_26_code
def yX4_requireHose : MethodName := ⟨RX4, "requireHose", "(I)V"⟩
abbrev cX4_requireAtHand : ByteArray := prog_1_method_27_code
def yX4_requireAtHand : MethodName := ⟨RX4, "requireAtHand", "(I)V"⟩
abbrev cX4_requireTruck : ByteArray := prog_1_method_28_code
def yX4_requireTruck : MethodName := ⟨RX4, "requireTruck", "(I)V"⟩
abbrev cX4_requireSetting : ByteArray := prog_1_method_29_code
def yX4_requireSetting : MethodName := ⟨RX4, "requireSetting", "(I)V"⟩
abbrev cX4_requirePressure : ByteArray := prog_1_method_30_code
def yX4_requirePressure : MethodName := ⟨RX4, "requirePressure", "(I)V"⟩
abbrev cX4_leastOfSetting : ByteArray := prog_1_method_31_code
def yX4_leastOfSetting : MethodName := ⟨RX4, "leastOfSetting", "(I)I"⟩
abbrev cX4_greatestOfSetting : ByteArray := prog_1_method_32_code
def yX4_greatestOfSetting : MethodName := ⟨RX4, "greatestOfSetting", "(I)I"⟩
abbrev cX4_saveState : ByteArray := prog_1_method_33_code
def yX4_saveState : MethodName := ⟨RX4, "saveState", "()V"⟩
def RX5 : String := "HoseTestsModel"
def TX5 : u_T := fun k => match k with
  | _ => ("", "", "", false)
def tyX5 : Nat → FieldType := fun k => match k with
  | _ => .int
abbrev wsX50 : List Cond := u_ws RX5 TX5 0
theorem nmX5 : ∀ a, a < 0 → ∀ b, b < 0 → a ≠ b → (TX5 a).2.1 ≠ (TX5 b).2.1 := by decide +kernel
theorem tyX5_ok : ∀ k, k < 0 → parseFieldDescriptor (TX5 k).2.2.1 = some (tyX5 k) := by decide +kernel
def RJ9 : String := "java/lang/Math"
def TJ9 : u_T := fun k => match k with
  | _ => ("", "", "", false)
def tyJ9 : Nat → FieldType := fun k => match k with
  | _ => .int
abbrev wsJ90 : List Cond := u_ws RJ9 TJ9 0
theorem nmJ9 : ∀ a, a < 0 → ∀ b, b < 0 → a ≠ b → (TJ9 a).2.1 ≠ (TJ9 b).2.1 := by decide +kernel
theorem tyJ9_ok : ∀ k, k < 0 → parseFieldDescriptor (TJ9 k).2.2.1 = some (tyJ9 k) := by decide +kernel
abbrev cJ9_max_7cf53 : ByteArray := prog_12_method_65_code
def yJ9_max_7cf53 : MethodName := ⟨RJ9, "max", "(II)I"⟩
abbrev cJ9_min_7cf53 : ByteArray := prog_12_method_69_code
def yJ9_min_7cf53 : MethodName := ⟨RJ9, "min", "(II)I"⟩
def RJ0 : String := "java/lang/String"
def TJ0 : u_T := fun k => match k with
  | _ => ("", "", "", false)
def tyJ0 : Nat → FieldType := fun k => match k with
  | _ => .int
abbrev wsJ00 : List Cond := u_ws RJ0 TJ0 0
theorem nmJ0 : ∀ a, a < 0 → ∀ b, b < 0 → a ≠ b → (TJ0 a).2.1 ≠ (TJ0 b).2.1 := by decide +kernel
theorem tyJ0_ok : ∀ k, k < 0 → parseFieldDescriptor (TJ0 k).2.2.1 = some (tyJ0 k) := by decide +kernel
def RJ10 : String := "java/lang/System"
def TJ10 : u_T := fun k => match k with
  | _ => ("", "", "", false)
def tyJ10 : Nat → FieldType := fun k => match k with
  | _ => .int
abbrev wsJ100 : List Cond := u_ws RJ10 TJ10 0
theorem nmJ10 : ∀ a, a < 0 → ∀ b, b < 0 → a ≠ b → (TJ10 a).2.1 ≠ (TJ10 b).2.1 := by decide +kernel
theorem tyJ10_ok : ∀ k, k < 0 → parseFieldDescriptor (TJ10 k).2.2.1 = some (tyJ10 k) := by decide +kernel
def RL : String := "HoseTestsLaw"
abbrev cL_low : ByteArray := method_2_code
def yL_low : MethodName := ⟨RL, "low", "(II)I"⟩
abbrev cL_cell : ByteArray := method_3_code
def yL_cell : MethodName := ⟨RL, "cell", "([II)I"⟩
abbrev cL_buy : ByteArray := method_4_code
def yL_buy : MethodName := ⟨RL, "buy", "(LHoseTests;III)I"⟩
abbrev cL_renew : ByteArray := method_5_code
def yL_renew : MethodName := ⟨RL, "renew", "(LHoseTests;I)I"⟩
abbrev cL_put : ByteArray := method_6_code
def yL_put : MethodName := ⟨RL, "put", "(LHoseTests;II)I"⟩
abbrev cL_lend : ByteArray := method_7_code
def yL_lend : MethodName := ⟨RL, "lend", "(LHoseTests;II)I"⟩
abbrev cL_test : ByteArray := method_8_code
def yL_test : MethodName := ⟨RL, "test", "(LHoseTests;II)I"⟩
abbrev cL_undo : ByteArray := method_9_code
def yL_undo : MethodName := ⟨RL, "undo", "(LHoseTests;)I"⟩
abbrev cL_station : ByteArray := method_10_code
def yL_station : MethodName := ⟨RL, "station", "(LHoseTests;)Z"⟩
abbrev cL_act : ByteArray := method_11_code
def yL_act : MethodName := ⟨RL, "act", "(LHoseTests;[II)I"⟩
abbrev cL_law : ByteArray := code
def yL_law : MethodName := ⟨RL, "law", "([I)Z"⟩
def wsL_law0_r1 : List Cond := [Cond.classLink RL 10 RX4, Cond.instantiable RX4 5, Cond.initialized RX4, Cond.methodLink RL 97 yX4_init, Cond.instanceMethod yX4_init, Cond.code yX4_init cX4_init 2 none, Cond.methodLink RX4 1 objectInit, Cond.instanceMethod objectInit, Cond.code objectInit ⟨#[0xb1]⟩ 1 none, Cond.classLink RX4 7 RX3, Cond.instantiable RX3 17, Cond.initialized RX3, Cond.fieldLink RX4 10 "HoseTests" "now" "LHoseTests$Station;", Cond.fieldLink RX4 16 "HoseTests" "saved" "[LHoseTests$Station;", Cond.fieldLink RX4 20 "HoseTests" "latestSaved" "I", Cond.fieldLink RX4 24 "HoseTests" "savedStates" "I", Cond.classLink RX4 27 RX0, Cond.instantiable RX0 2, Cond.initialized RX0, Cond.fieldLink RX4 30 "HoseTests" "text" "LHoseTests$HoseText;", Cond.methodLink RX4 9 yX3_init, Cond.instanceMethod yX3_init, Cond.code yX3_init cX3_init 1 none, Cond.methodLink RX3 3 objectInit]
def wsL_law0_r2 : List Cond := [Cond.fieldLink RX3 9 "HoseTests$Station" "day" "I", Cond.fieldLink RX3 15 "HoseTests$Station" "money" "I", Cond.arrayClass .int, Cond.fieldLink RX3 18 "HoseTests$Station" "wanted" "[I", Cond.fieldLink RX3 22 "HoseTests$Station" "settings" "[I", Cond.fieldLink RX3 25 "HoseTests$Station" "kind" "[I", Cond.fieldLink RX3 28 "HoseTests$Station" "length" "[I", Cond.fieldLink RX3 31 "HoseTests$Station" "coupling" "[I", Cond.fieldLink RX3 34 "HoseTests$Station" "made" "[I", Cond.fieldLink RX3 37 "HoseTests$Station" "wear" "[I", Cond.fieldLink RX3 40 "HoseTests$Station" "lastTestDay" "[I", Cond.fieldLink RX3 43 "HoseTests$Station" "place" "[I", Cond.fieldLink RX3 46 "HoseTests$Station" "backDay" "[I", Cond.classLink RX3 49 RX2, Cond.instantiable RX2 4, Cond.initialized RX2, Cond.fieldLink RX3 52 "HoseTests$Station" "line" "LHoseTests$Line;", Cond.instanceMethod yX2_init, Cond.code yX2_init cX2_init 1 none, Cond.methodLink RX2 3 objectInit, Cond.methodLink RX4 29 yX0_init, Cond.instanceMethod yX0_init, Cond.code yX0_init cX0_init 1 none, Cond.methodLink RX0 3 objectInit]
def wsL_law0_r3 : List Cond := [Cond.fieldLink RX0 11 "HoseTests$HoseText" "codes" "[I", Cond.fieldLink RX0 15 "HoseTests$HoseText" "size" "I", Cond.methodLink RL 35 yX4_count, Cond.instanceMethod yX4_count, Cond.selects RX4 yX4_count yX4_count, Cond.code yX4_count cX4_count 2 (some .int), Cond.classLink RX4 38 "java/lang/IllegalArgumentException", Cond.initialized "java/lang/IllegalArgumentException", Cond.fieldLink RX4 127 "HoseTests$Station" "day" "I", Cond.fieldLink RX4 213 "HoseTests$Station" "money" "I", Cond.fieldLink RX4 216 "HoseTests$Station" "hoses" "I", Cond.fieldLink RX4 225 "HoseTests$Station" "tests" "I", Cond.fieldLink RX4 228 "HoseTests$Station" "bursts" "I", Cond.fieldLink RX4 231 "HoseTests$Station" "paid" "I", Cond.methodLink RX4 34 yX4_isWithin, Cond.static yX4_isWithin, Cond.code yX4_isWithin cX4_isWithin 3 (some .boolean), Cond.methodLink RX4 199 yX3_hosesAt, Cond.instanceMethod yX3_hosesAt, Cond.selects RX3 yX3_hosesAt yX3_hosesAt, Cond.code yX3_hosesAt cX3_hosesAt 4 (some .int), Cond.fieldLink RX3 56 "HoseTests$Station" "hoses" "I", Cond.methodLink RX4 219 yX3_readyHoses, Cond.instanceMethod yX3_readyHoses]
def wsL_law0_r4 : List Cond := [Cond.selects RX3 yX3_readyHoses yX3_readyHoses, Cond.code yX3_readyHoses cX3_readyHoses 3 (some .int), Cond.methodLink RX3 138 yX3_isReady, Cond.instanceMethod yX3_isReady, Cond.selects RX3 yX3_isReady yX3_isReady, Cond.code yX3_isReady cX3_isReady 2 (some .boolean), Cond.methodLink RX3 78 yX3_reasonOf, Cond.instanceMethod yX3_reasonOf, Cond.selects RX3 yX3_reasonOf yX3_reasonOf, Cond.code yX3_reasonOf cX3_reasonOf 2 (some .int), Cond.methodLink RX3 82 yX3_isGone, Cond.instanceMethod yX3_isGone, Cond.selects RX3 yX3_isGone yX3_isGone, Cond.code yX3_isGone cX3_isGone 2 (some .boolean), Cond.methodLink RX3 86 yX3_isLent, Cond.instanceMethod yX3_isLent, Cond.selects RX3 yX3_isLent yX3_isLent, Cond.code yX3_isLent cX3_isLent 2 (some .boolean), Cond.methodLink RX3 89 yX1_lifeOf, Cond.static yX1_lifeOf, Cond.initialized RX1, Cond.code yX1_lifeOf cX1_lifeOf 1 (some .int), Cond.methodLink RX4 222 yX3_wholeTrucks, Cond.instanceMethod yX3_wholeTrucks]
def wsL_law0_r5 : List Cond := [Cond.selects RX3 yX3_wholeTrucks yX3_wholeTrucks, Cond.code yX3_wholeTrucks cX3_wholeTrucks 3 (some .int), Cond.methodLink RX3 151 yX3_layLine, Cond.instanceMethod yX3_layLine, Cond.selects RX3 yX3_layLine yX3_layLine, Cond.code yX3_layLine cX3_layLine 4 (some .boolean), Cond.fieldLink RX3 148 "HoseTests$Line" "metres" "I", Cond.methodLink RX3 141 yX2_begin, Cond.instanceMethod yX2_begin, Cond.selects RX2 yX2_begin yX2_begin, Cond.code yX2_begin cX2_begin 1 none, Cond.fieldLink RX2 9 "HoseTests$Line" "metres" "I", Cond.fieldLink RX2 15 "HoseTests$Line" "adaptersUsed" "I", Cond.fieldLink RX2 18 "HoseTests$Line" "mask" "I", Cond.fieldLink RX2 21 "HoseTests$Line" "lastCoupling" "I", Cond.methodLink RX3 144 yX2_join, Cond.instanceMethod yX2_join, Cond.selects RX2 yX2_join yX2_join, Cond.code yX2_join cX2_join 5 none, Cond.methodLink RL 63 yL_cell, Cond.static yL_cell, Cond.initialized RL, Cond.code yL_cell cL_cell 2 (some .int), Cond.constant RL 8 (40503)]
def wsL_law0_r6 : List Cond := [Cond.methodLink RL 69 yL_low, Cond.static yL_low, Cond.code yL_low cL_low 2 (some .int), Cond.constant RL 7 (2147483647), Cond.methodLink RL 44 yX4_ifTested, Cond.instanceMethod yX4_ifTested, Cond.selects RX4 yX4_ifTested yX4_ifTested, Cond.code yX4_ifTested cX4_ifTested 3 (some .int), Cond.methodLink RX4 61 yX4_requireHose, Cond.instanceMethod yX4_requireHose, Cond.selects RX4 yX4_requireHose yX4_requireHose, Cond.code yX4_requireHose cX4_requireHose 2 none, Cond.classLink RX4 287 "java/lang/IndexOutOfBoundsException", Cond.initialized "java/lang/IndexOutOfBoundsException", Cond.methodLink RX4 96 yX4_requirePressure, Cond.static yX4_requirePressure, Cond.code yX4_requirePressure cX4_requirePressure 1 none, Cond.methodLink RX4 234 yX3_isGone, Cond.methodLink RX4 237 yX3_outcomeOf, Cond.instanceMethod yX3_outcomeOf, Cond.selects RX3 yX3_outcomeOf yX3_outcomeOf, Cond.code yX3_outcomeOf cX3_outcomeOf 4 (some .int), Cond.methodLink RX3 120 yX3_stepsHeld, Cond.instanceMethod yX3_stepsHeld]
def wsL_law0_r7 : List Cond := [Cond.selects RX3 yX3_stepsHeld yX3_stepsHeld, Cond.code yX3_stepsHeld cX3_stepsHeld 7 (some .int), Cond.methodLink RX3 112 Lib.Math.min.name, Cond.static Lib.Math.min.name, Cond.initialized "java/lang/Math", Cond.code Lib.Math.min.name Lib.Math.min.code 2 (some .int), Cond.methodLink RX3 109 yX3_stepsUpTo, Cond.static yX3_stepsUpTo, Cond.code yX3_stepsUpTo cX3_stepsUpTo 1 (some .int), Cond.methodLink RX3 117 yX3_strengthAt, Cond.instanceMethod yX3_strengthAt, Cond.selects RX3 yX3_strengthAt yX3_strengthAt, Cond.code yX3_strengthAt cX3_strengthAt 3 (some .int), Cond.methodLink RX3 94 yX1_strengthOf, Cond.static yX1_strengthOf, Cond.code yX1_strengthOf cX1_strengthOf 3 (some .int), Cond.methodLink RX1 9 Lib.Math.max.name, Cond.static Lib.Math.max.name, Cond.code Lib.Math.max.name Lib.Math.max.code 2 (some .int), Cond.methodLink RL 38 yX4_hose, Cond.instanceMethod yX4_hose, Cond.selects RX4 yX4_hose yX4_hose, Cond.code yX4_hose cX4_hose 3 (some .int), Cond.fieldLink RX4 68 "HoseTests$Station" "kind" "[I"]
def wsL_law0_r8 : List Cond := [Cond.fieldLink RX4 72 "HoseTests$Station" "length" "[I", Cond.fieldLink RX4 164 "HoseTests$Station" "coupling" "[I", Cond.fieldLink RX4 167 "HoseTests$Station" "made" "[I", Cond.fieldLink RX4 170 "HoseTests$Station" "wear" "[I", Cond.fieldLink RX4 176 "HoseTests$Station" "lastTestDay" "[I", Cond.fieldLink RX4 81 "HoseTests$Station" "place" "[I", Cond.fieldLink RX4 179 "HoseTests$Station" "backDay" "[I", Cond.methodLink RX4 173 yX3_strengthAt, Cond.methodLink RX4 182 yX3_reasonOf, Cond.methodLink RL 98 yL_act, Cond.static yL_act, Cond.code yL_act cL_act 7 (some .int), Cond.methodLink RL 72 yL_buy, Cond.static yL_buy, Cond.codeWith yL_buy cL_buy 5 (some .int) [(0, 7, 8, 15)], Cond.classLink RL 15 "java/lang/IllegalStateException", Cond.methodLink RL 9 yX4_buy, Cond.instanceMethod yX4_buy, Cond.selects RX4 yX4_buy yX4_buy, Cond.code yX4_buy cX4_buy 4 (some .int), Cond.classLink RX4 49 "java/lang/IllegalStateException", Cond.initialized "java/lang/IllegalStateException", Cond.methodLink RX4 45 yX3_canBuy, Cond.instanceMethod yX3_canBuy]
def wsL_law0_r9 : List Cond := [Cond.selects RX3 yX3_canBuy yX3_canBuy, Cond.code yX3_canBuy cX3_canBuy 3 (some .boolean), Cond.methodLink RX3 98 yX1_costOf, Cond.static yX1_costOf, Cond.code yX1_costOf cX1_costOf 2 (some .int), Cond.methodLink RX4 54 yX4_saveState, Cond.instanceMethod yX4_saveState, Cond.selects RX4 yX4_saveState yX4_saveState, Cond.code yX4_saveState cX4_saveState 2 none, Cond.methodLink RX4 158 yX3_copyFrom, Cond.instanceMethod yX3_copyFrom, Cond.selects RX3 yX3_copyFrom yX3_copyFrom, Cond.code yX3_copyFrom cX3_copyFrom 2 none, Cond.fieldLink RX3 59 "HoseTests$Station" "tests" "I", Cond.fieldLink RX3 62 "HoseTests$Station" "bursts" "I", Cond.fieldLink RX3 65 "HoseTests$Station" "paid" "I", Cond.methodLink RX3 68 arraycopyName, Cond.native arraycopyName, Cond.static arraycopyName, Cond.initialized "java/lang/System", Cond.methodLink RX4 57 yX3_addHose, Cond.instanceMethod yX3_addHose, Cond.selects RX3 yX3_addHose yX3_addHose, Cond.code yX3_addHose cX3_addHose 6 (some .int)]
def wsL_law0_r10 : List Cond := [Cond.methodLink RX3 102 yX3_priceOf, Cond.instanceMethod yX3_priceOf, Cond.selects RX3 yX3_priceOf yX3_priceOf, Cond.code yX3_priceOf cX3_priceOf 2 (some .int), Cond.methodLink RL 75 yL_renew, Cond.static yL_renew, Cond.codeWith yL_renew cL_renew 3 (some .int) [(0, 5, 6, 15)], Cond.methodLink RL 17 yX4_renew, Cond.instanceMethod yX4_renew, Cond.selects RX4 yX4_renew yX4_renew, Cond.code yX4_renew cX4_renew 2 (some .int), Cond.methodLink RX4 65 yX4_requireAtHand, Cond.instanceMethod yX4_requireAtHand, Cond.selects RX4 yX4_requireAtHand yX4_requireAtHand, Cond.code yX4_requireAtHand cX4_requireAtHand 2 none, Cond.methodLink RX4 292 yX3_isLent, Cond.methodLink RX4 75 yX3_replaceHose, Cond.instanceMethod yX3_replaceHose, Cond.selects RX3 yX3_replaceHose yX3_replaceHose, Cond.code yX3_replaceHose cX3_replaceHose 3 (some .int), Cond.methodLink RX3 105 yX3_addHose, Cond.methodLink RL 78 yL_put, Cond.static yL_put, Cond.codeWith yL_put cL_put 4 (some .int) [(0, 6, 7, 15)]]
def wsL_law0_r11 : List Cond := [Cond.methodLink RL 21 yX4_put, Cond.instanceMethod yX4_put, Cond.selects RX4 yX4_put yX4_put, Cond.code yX4_put cX4_put 4 (some .int), Cond.methodLink RL 81 yL_lend, Cond.static yL_lend, Cond.codeWith yL_lend cL_lend 4 (some .int) [(0, 6, 7, 15)], Cond.methodLink RL 25 yX4_lend, Cond.instanceMethod yX4_lend, Cond.selects RX4 yX4_lend yX4_lend, Cond.code yX4_lend cX4_lend 3 (some .int), Cond.methodLink RX4 86 yX3_isReady, Cond.methodLink RX4 92 yX3_lendOut, Cond.instanceMethod yX3_lendOut, Cond.selects RX3 yX3_lendOut yX3_lendOut, Cond.code yX3_lendOut cX3_lendOut 3 (some .int), Cond.methodLink RL 83 yL_test, Cond.static yL_test, Cond.codeWith yL_test cL_test 4 (some .int) [(0, 6, 7, 15)], Cond.methodLink RL 28 yX4_test, Cond.instanceMethod yX4_test, Cond.selects RX4 yX4_test yX4_test, Cond.code yX4_test cX4_test 3 (some .int), Cond.methodLink RX4 99 yX3_runTest]
def wsL_law0_r12 : List Cond := [Cond.instanceMethod yX3_runTest, Cond.selects RX3 yX3_runTest yX3_runTest, Cond.code yX3_runTest cX3_runTest 5 (some .int), Cond.methodLink RX3 123 yX3_outcomeOf, Cond.methodLink RX3 126 yX1_daysInForce, Cond.static yX1_daysInForce, Cond.code yX1_daysInForce cX1_daysInForce 1 (some .int), Cond.methodLink RL 85 yX4_want, Cond.instanceMethod yX4_want, Cond.selects RX4 yX4_want yX4_want, Cond.code yX4_want cX4_want 4 (some .int), Cond.fieldLink RX4 107 "HoseTests$Station" "wanted" "[I", Cond.methodLink RX4 102 yX4_requireTruck, Cond.static yX4_requireTruck, Cond.code yX4_requireTruck cX4_requireTruck 1 none, Cond.methodLink RL 88 yX4_set, Cond.instanceMethod yX4_set, Cond.selects RX4 yX4_set yX4_set, Cond.code yX4_set cX4_set 4 (some .int), Cond.fieldLink RX4 121 "HoseTests$Station" "settings" "[I", Cond.methodLink RX4 110 yX4_requireSetting, Cond.static yX4_requireSetting, Cond.code yX4_requireSetting cX4_requireSetting 1 none, Cond.methodLink RX4 113 yX4_leastOfSetting]
def wsL_law0_r13 : List Cond := [Cond.static yX4_leastOfSetting, Cond.code yX4_leastOfSetting cX4_leastOfSetting 1 (some .int), Cond.methodLink RX4 116 yX4_greatestOfSetting, Cond.static yX4_greatestOfSetting, Cond.code yX4_greatestOfSetting cX4_greatestOfSetting 1 (some .int), Cond.methodLink RL 91 yX4_pass, Cond.instanceMethod yX4_pass, Cond.selects RX4 yX4_pass yX4_pass, Cond.code yX4_pass cX4_pass 3 (some .int), Cond.methodLink RX4 124 yX3_passDay, Cond.instanceMethod yX3_passDay, Cond.selects RX3 yX3_passDay yX3_passDay, Cond.code yX3_passDay cX3_passDay 1 none, Cond.methodLink RX3 129 yX3_takeBackLent, Cond.instanceMethod yX3_takeBackLent, Cond.selects RX3 yX3_takeBackLent yX3_takeBackLent, Cond.code yX3_takeBackLent cX3_takeBackLent 2 none, Cond.methodLink RX3 132 yX3_wearOnTrucks, Cond.instanceMethod yX3_wearOnTrucks, Cond.selects RX3 yX3_wearOnTrucks yX3_wearOnTrucks, Cond.code yX3_wearOnTrucks cX3_wearOnTrucks 2 none, Cond.methodLink RX3 135 yX3_isOnTruck, Cond.instanceMethod yX3_isOnTruck, Cond.selects RX3 yX3_isOnTruck yX3_isOnTruck]
def wsL_law0_r14 : List Cond := [Cond.code yX3_isOnTruck cX3_isOnTruck 2 (some .boolean), Cond.methodLink RL 94 yL_undo, Cond.static yL_undo, Cond.codeWith yL_undo cL_undo 2 (some .int) [(0, 4, 5, 15)], Cond.methodLink RL 31 yX4_undo, Cond.instanceMethod yX4_undo, Cond.selects RX4 yX4_undo yX4_undo, Cond.code yX4_undo cX4_undo 2 (some .int), Cond.methodLink RL 53 yX4_setting, Cond.instanceMethod yX4_setting, Cond.selects RX4 yX4_setting yX4_setting, Cond.code yX4_setting cX4_setting 2 (some .int), Cond.methodLink RL 102 yL_station, Cond.static yL_station, Cond.code yL_station cL_station 13 (some .boolean), Cond.methodLink RL 41 yX4_safe, Cond.instanceMethod yX4_safe, Cond.selects RX4 yX4_safe yX4_safe, Cond.code yX4_safe cX4_safe 2 (some .int), Cond.methodLink RX4 240 yX3_greatestSafePressure, Cond.instanceMethod yX3_greatestSafePressure, Cond.selects RX3 yX3_greatestSafePressure yX3_greatestSafePressure, Cond.code yX3_greatestSafePressure cX3_greatestSafePressure 3 (some .int), Cond.methodLink RL 47 yX4_truck]
def wsL_law0_r15 : List Cond := [Cond.instanceMethod yX4_truck, Cond.selects RX4 yX4_truck yX4_truck, Cond.code yX4_truck cX4_truck 4 (some .int), Cond.fieldLink RX4 190 "HoseTests$Station" "line" "LHoseTests$Line;", Cond.fieldLink RX4 194 "HoseTests$Line" "metres" "I", Cond.fieldLink RX4 205 "HoseTests$Line" "adaptersUsed" "I", Cond.fieldLink RX4 208 "HoseTests$Line" "mask" "I", Cond.methodLink RX4 187 yX3_layLine, Cond.methodLink RX4 202 yX3_readyHosesAt, Cond.instanceMethod yX3_readyHosesAt, Cond.selects RX3 yX3_readyHosesAt yX3_readyHosesAt, Cond.code yX3_readyHosesAt cX3_readyHosesAt 4 (some .int), Cond.methodLink RL 50 yX4_helps, Cond.instanceMethod yX4_helps, Cond.selects RX4 yX4_helps yX4_helps, Cond.code yX4_helps cX4_helps 2 (some .int), Cond.methodLink RX4 246 yX3_cheapestHelp, Cond.instanceMethod yX3_cheapestHelp, Cond.selects RX3 yX3_cheapestHelp yX3_cheapestHelp, Cond.code yX3_cheapestHelp cX3_cheapestHelp 6 (some .int), Cond.methodLink RL 56 yX4_nextLapse, Cond.instanceMethod yX4_nextLapse, Cond.selects RX4 yX4_nextLapse yX4_nextLapse, Cond.code yX4_nextLapse cX4_nextLapse 1 (some .int)]
def wsL_law0_r16 : List Cond := [Cond.methodLink RX4 243 yX3_daysToFirstLapse, Cond.instanceMethod yX3_daysToFirstLapse, Cond.selects RX3 yX3_daysToFirstLapse yX3_daysToFirstLapse, Cond.code yX3_daysToFirstLapse cX3_daysToFirstLapse 5 (some .int), Cond.methodLink RL 59 yX4_readyShare, Cond.instanceMethod yX4_readyShare, Cond.selects RX4 yX4_readyShare yX4_readyShare, Cond.code yX4_readyShare cX4_readyShare 2 (some .double)]
def wsL_law0 : List Cond := (wsL_law0_r1 ++ (wsL_law0_r2 ++ (wsL_law0_r3 ++ (wsL_law0_r4 ++ (wsL_law0_r5 ++ (wsL_law0_r6 ++ (wsL_law0_r7 ++ (wsL_law0_r8 ++ (wsL_law0_r9 ++ (wsL_law0_r10 ++ (wsL_law0_r11 ++ (wsL_law0_r12 ++ (wsL_law0_r13 ++ (wsL_law0_r14 ++ (wsL_law0_r15 ++ wsL_law0_r16))))))))))))))) ++ wsX40 ++ wsX30 ++ wsX00 ++ wsX20 ++ ([] : List Cond)
def wsL_law : List Cond := wsL_law0 ++ (vx_atS RX4 42 "java/lang/IllegalArgumentException" ["java/lang/RuntimeException", "java/lang/Exception"]).filter goodWord ++ (vx_atS RX4 291 "java/lang/IndexOutOfBoundsException" ["java/lang/RuntimeException", "java/lang/Exception"]).filter goodWord ++ (vx_atS RX4 53 "java/lang/IllegalStateException" ["java/lang/RuntimeException", "java/lang/Exception"]).filter goodWord

