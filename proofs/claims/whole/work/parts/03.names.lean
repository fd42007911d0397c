/-! ===== BEGIN printed: names, fields, word lists, decode rows ===== -/
def RX0 : String := "HoseTests$HoseText"
def TX0 : u_T := fun k => match k with
  | 0 => ("HoseTests$HoseText", "codes", "[I", true)
  | _ => ("HoseTests$HoseText", "size", "I", false)
def tyX0 : Nat → FieldType := fun k => match k with
  | 0 => .array .int
  | _ => .int
abbrev wsX00 : List Cond := u_ws RX0 TX0 2
theorem nmX0 : ∀ a, a < 2 → ∀ b, b < 2 → a ≠ b → (TX0 a).2.1 ≠ (TX0 b).2.1 := by decide +kernel
theorem tyX0_ok : ∀ k, k < 2 → parseFieldDescriptor (TX0 k).2.2.1 = some (tyX0 k) := by decide +kernel
abbrev cX0_init : ByteArray := prog_2_method_1_code
def yX0_init : MethodName := ⟨RX0, "<init>", "()V"⟩
abbrev cX0_isFull : ByteArray := prog_2_method_2_code
def yX0_isFull : MethodName := ⟨RX0, "isFull", "()Z"⟩
abbrev cX0_addCode : ByteArray := prog_2_method_3_code
def yX0_addCode : MethodName := ⟨RX0, "addCode", "(I)V"⟩
abbrev cX0_findError : ByteArray := prog_2_method_4_code
def yX0_findError : MethodName := ⟨RX0, "findError", "()I"⟩
abbrev cX0_isComplete : ByteArray := prog_2_method_5_code
def yX0_isComplete : MethodName := ⟨RX0, "isComplete", "()Z"⟩
abbrev cX0_stateBehind : ByteArray := prog_2_method_6_code
def yX0_stateBehind : MethodName := ⟨RX0, "stateBehind", "(II)I"⟩
abbrev cX0_stateBehindFirstDigit : ByteArray := prog_2_method_7_code
def yX0_stateBehindFirstDigit : MethodName := ⟨RX0, "stateBehindFirstDigit", "(I)I"⟩
abbrev cX0_stateBehindCoupling : ByteArray := prog_2_method_8_code
def yX0_stateBehindCoupling : MethodName := ⟨RX0, "stateBehindCoupling", "(I)I"⟩
abbrev cX0_isDigit : ByteArray := prog_2_method_9_code
def yX0_isDigit : MethodName := ⟨RX0, "isDigit", "(I)Z"⟩
abbrev cX0_kindOf : ByteArray := prog_2_method_10_code
def yX0_kindOf : MethodName := ⟨RX0, "kindOf", "(I)I"⟩
abbrev cX0_couplingOf : ByteArray := prog_2_method_11_code
def yX0_couplingOf : MethodName := ⟨RX0, "couplingOf", "(I)I"⟩
def RX1 : String := "HoseTests$Kinds"
def TX1 : u_T := fun k => match k with
  | _ => ("", "", "", false)
def tyX1 : Nat → FieldType := fun k => match k with
  | _ => .int
abbrev wsX10 : List Cond := u_ws RX1 TX1 0
theorem nmX1 : ∀ a, a < 0 → ∀ b, b < 0 → a ≠ b → (TX1 a).2.1 ≠ (TX1 b).2.1 := by decide +kernel
theorem tyX1_ok : ∀ k, k < 0 → parseFieldDescriptor (TX1 k).2.2.1 = some (tyX1 k) := by decide +kernel
abbrev cX1_strengthOf : ByteArray := prog_3_method_2_code
def yX1_strengthOf : MethodName := ⟨RX1, "strengthOf", "(III)I"⟩
abbrev cX1_lifeOf : ByteArray := prog_3_method_3_code
def yX1_lifeOf : MethodName := ⟨RX1, "lifeOf", "(I)I"⟩
abbrev cX1_daysInForce : ByteArray := prog_3_method_4_code
def yX1_daysInForce : MethodName := ⟨RX1, "daysInForce", "(I)I"⟩
abbrev cX1_costOf : ByteArray := prog_3_method_5_code
def yX1_costOf : MethodName := ⟨RX1, "costOf", "(II)I"⟩
def RX2 : String := "HoseTests$Line"
def TX2 : u_T := fun k => match k with
  | 0 => ("HoseTests$Line", "metres", "I", false)
  | 1 => ("HoseTests$Line", "adaptersUsed", "I", false)
  | 2 => ("HoseTests$Line", "mask", "I", false)
  | _ => ("HoseTests$Line", "lastCoupling", "I", false)
def tyX2 : Nat → FieldType := fun k => match k with
  | 0 => .int
  | 1 => .int
  | 2 => .int
  | _ => .int
abbrev wsX20 : List Cond := u_ws RX2 TX2 4
theorem nmX2 : ∀ a, a < 4 → ∀ b, b < 4 → a ≠ b → (TX2 a).2.1 ≠ (TX2 b).2.1 := by decide +kernel
theorem tyX2_ok : ∀ k, k < 4 → parseFieldDescriptor (TX2 k).2.2.1 = some (tyX2 k) := by decide +kernel
abbrev cX2_init : ByteArray := prog_4_method_1_code
def yX2_init : MethodName := ⟨RX2, "<init>", "()V"⟩
abbrev cX2_begin : ByteArray := prog_4_method_2_code
def yX2_begin : MethodName := ⟨RX2, "begin", "()V"⟩
abbrev cX2_join : ByteArray := prog_4_method_3_code
def yX2_join : MethodName := ⟨RX2, "join", "(IIII)V"⟩
def RX3 : String := "HoseTests$Station"
def TX3 : u_T := fun k => match k with
  | 0 => ("HoseTests$Station", "day", "I", false)
  | 1 => ("HoseTests$Station", "money", "I", false)
  | 2 => ("HoseTests$Station", "hoses", "I", false)
  | 3 => ("HoseTests$Station", "tests", "I", false)
  | 4 => ("HoseTests$Station", "bursts", "I", false)
  | 5 => ("HoseTests$Station", "paid", "I", false)
  | 6 => ("HoseTests$Station", "wanted", "[I", true)
  | 7 => ("HoseTests$Station", "settings", "[I", true)
  | 8 => ("HoseTests$Station", "kind", "[I", true)
  | 9 => ("HoseTests$Station", "length", "[I", true)
  | 10 => ("HoseTests$Station", "coupling", "[I", true)
  | 11 => ("HoseTests$Station", "made", "[I", true)
  | 12 => ("HoseTests$Station", "wear", "[I", true)
  | 13 => ("HoseTests$Station", "lastTestDay", "[I", true)
  | 14 => ("HoseTests$Station", "place", "[I", true)
  | 15 => ("HoseTests$Station", "backDay", "[I", true)
  | _ => ("HoseTests$Station", "line", "LHoseTests$Line;", true)
def tyX3 : Nat → FieldType := fun k => match k with
  | 0 => .int
  | 1 => .int
  | 2 => .int
  | 3 => .int
  | 4 => .int
  | 5 => .int
  | 6 => .array .int
  | 7 => .array .int
  | 8 => .array .int
  | 9 => .array .int
  | 10 => .array .int
  | 11 => .array .int
  | 12 => .array .int
  | 13 => .array .int
  | 14 => .array .int
  | 15 => .array .int
  | _ => .object "HoseTests$Line"
abbrev wsX30 : List Cond := u_ws RX3 TX3 17
theorem nmX3 : ∀ a, a < 17 → ∀ b, b < 17 → a ≠ b → (TX3 a).2.1 ≠ (TX3 b).2.1 := by decide +kernel
theorem tyX3_ok : ∀ k, k < 17 → parseFieldDescriptor (TX3 k).2.2.1 = some (tyX3 k) := by decide +kernel
abbrev cX3_init : ByteArray := prog_5_method_1_code
def yX3_init : MethodName := ⟨RX3, "<init>", "()V"⟩
abbrev cX3_copyFrom : ByteArray := prog_5_method_2_code
def yX3_copyFrom : MethodName := ⟨RX3, "copyFrom", "(LHoseTests$Station;)V"⟩
abbrev cX3_isGone : ByteArray := prog_5_method_3_code
def yX3_isGone : MethodName := ⟨RX3, "isGone", "(I)Z"⟩
abbrev cX3_isLent : ByteArray := prog_5_method_4_code
def yX3_isLent : MethodName := ⟨RX3, "isLent", "(I)Z"⟩
abbrev cX3_isOnTruck : ByteArray := prog_5_method_5_code
def yX3_isOnTruck : MethodName := ⟨RX3, "isOnTruck", "(I)Z"⟩
abbrev cX3_isReady : ByteArray := prog_5_method_6_code
def yX3_isReady : MethodName := ⟨RX3, "isReady", "(I)Z"⟩
abbrev cX3_reasonOf : ByteArray := prog_5_method_7_code
def yX3_reasonOf : MethodName := ⟨RX3, "reasonOf", "(I)I"⟩
abbrev cX3_strengthAt : ByteArray := prog_5_method_8_code
def yX3_strengthAt : MethodName := ⟨RX3, "strengthAt", "(II)I"⟩
abbrev cX3_priceOf : ByteArray := prog_5_method_9_code
def yX3_priceOf : MethodName := ⟨RX3, "priceOf", "(I)I"⟩
abbrev cX3_canBuy : ByteArray := prog_5_method_10_code
def yX3_canBuy : MethodName := ⟨RX3, "canBuy", "(II)Z"⟩
abbrev cX3_addHose : ByteArray := prog_5_method_11_code
def yX3_addHose : MethodName := ⟨RX3, "addHose", "(IIII)I"⟩
abbrev cX3_replaceHose : ByteArray := prog_5_method_12_code
def yX3_replaceHose : MethodName := ⟨RX3, "replaceHose", "(I)I"⟩
abbrev cX3_lendOut : ByteArray := prog_5_method_13_code
def yX3_lendOut : MethodName := ⟨RX3, "lendOut", "(II)I"⟩
abbrev cX3_stepsUpTo : ByteArray := prog_5_method_14_code
def yX3_stepsUpTo : MethodName := ⟨RX3, "stepsUpTo", "(I)I"⟩
abbrev cX3_stepsHeld : ByteArray := prog_5_method_15_code
def yX3_stepsHeld : MethodName := ⟨RX3, "stepsHeld", "(II)I"⟩
abbrev cX3_outcomeOf : ByteArray := prog_5_method_16_code
def yX3_outcomeOf : MethodName := ⟨RX3, "outcomeOf", "(II)I"⟩
abbrev cX3_runTest : ByteArray := prog_5_method_17_code
def yX3_runTest : MethodName := ⟨RX3, "runTest", "(II)I"⟩
abbrev cX3_greatestSafePressure : ByteArray := prog_5_method_18_code
def yX3_greatestSafePressure : MethodName := ⟨RX3, "greatestSafePressure", "(I)I"⟩
abbrev cX3_passDay : ByteArray := prog_5_method_19_code
def yX3_passDay : MethodName := ⟨RX3, "passDay", "()V"⟩
abbrev cX3_takeBackLent : ByteArray := prog_5_method_20_code
def yX3_takeBackLent : MethodName := ⟨RX3, "takeBackLent", "()V"⟩
abbrev cX3_wearOnTrucks : ByteArray := prog_5_method_21_code
def yX3_wearOnTrucks : MethodName := ⟨RX3, "wearOnTrucks", "()V"⟩
abbrev cX3_hosesAt : ByteArray := prog_5_method_22_code
def yX3_hosesAt : MethodName := ⟨RX3, "hosesAt", "(I)I"⟩
abbrev cX3_readyHosesAt : ByteArray := prog_5_method_23_code
def yX3_readyHosesAt : MethodName := ⟨RX3, "readyHosesAt", "(I)I"⟩
abbrev cX3_readyHoses : ByteArray := prog_5_method_24_code
def yX3_readyHoses : MethodName := ⟨RX3, "readyHoses", "()I"⟩
abbrev cX3_layLine : ByteArray := prog_5_method_25_code
def yX3_layLine : MethodName := ⟨RX3, "layLine", "(II)Z"⟩
abbrev cX3_wholeTrucks : ByteArray := prog_5_method_26_code
def yX3_wholeTrucks : MethodName := ⟨RX3, "wholeTrucks", "()I"⟩
abbrev cX3_cheapestHelp : ByteArray := prog_5_method_27_code
def yX3_cheapestHelp : MethodName := ⟨RX3, "cheapestHelp", "(I)I"⟩
abbrev cX3_daysToFirstLapse : ByteArray := prog_5_method_28_code
def yX3_daysToFirstLapse : MethodName := ⟨RX3, "daysToFirstLapse", "()I"⟩
def RX4 : String := "HoseTests"
def TX4 : u_T := fun k => match k with
  | 0 => ("HoseTests", "now", "LHoseTests$Station;", true)
  | 1 => ("HoseTests", "saved", "[LHoseTests$Station;", true)
  | 2 => ("HoseTests", "latestSaved", "I", false)
  | 3 => ("HoseTests", "savedStates", "I", false)
  | _ => ("HoseTests", "text", "LHoseTests$HoseText;", true)
def tyX4 : Nat → FieldType := fun k => match k with
  | 0 => .object "HoseTests$Station"
  | 1 => .array (.object "HoseTests$Station")
  | 2 => .int
  | 3 => .int
  | _ => .object "HoseTests$HoseText"
abbrev wsX40 : List Cond := u_ws RX4 TX4 5
theorem nmX4 : ∀ a, a < 5 → ∀ b, b < 5 → a ≠ b → (TX4 a).2.1 ≠ (TX4 b).2.1 := by decide +kernel
theorem tyX4_ok : ∀ k, k < 5 → parseFieldDescriptor (TX4 k).2.2.1 = some (tyX4 k) := by decide +kernel
abbrev cX4_init : ByteArray := prog_1_method_1_code
def yX4_init : MethodName := ⟨RX4, "<init>", "()V"⟩
abbrev cX4_buy : ByteArray := prog_1_method_2_code
def yX4_buy : MethodName := ⟨RX4, "buy", "(III)I"⟩
abbrev cX4_renew : ByteArray := prog_1_method_3_code
def yX4_renew : MethodName := ⟨RX4, "renew", "(I)I"⟩
abbrev cX4_put : ByteArray := prog_1_method_4_code
def yX4_put : MethodName := ⟨RX4, "put", "(II)I"⟩
abbrev cX4_lend : ByteArray := prog_1_method_5_code
def yX4_lend : MethodName := ⟨RX4, "lend", "(II)I"⟩
abbrev cX4_test : ByteArray := prog_1_method_6_code
def yX4_test : MethodName := ⟨RX4, "test", "(II)I"⟩
abbrev cX4_want : ByteArray := prog_1_method_7_code
def yX4_want : MethodName := ⟨RX4, "want", "(II)I"⟩
abbrev cX4_set : ByteArray := prog_1_method_8_code
def yX4_set : MethodName := ⟨RX4, "set", "(II)I"⟩
abbrev cX4_pass : ByteArray := prog_1_method_9_code
def yX4_pass : MethodName := ⟨RX4, "pass", "(I)I"⟩
abbrev cX4_append : ByteArray := prog_1_method_10_code
def yX4_append : MethodName := ⟨RX4, "append", "(I)I"⟩
abbrev cX4_clearBuffer : ByteArray := prog_1_method_11_code
def yX4_clearBuffer : MethodName := ⟨RX4, "clearBuffer", "()I"⟩
abbrev cX4_firstError : ByteArray := prog_1_method_12_code
def yX4_firstError : MethodName := ⟨RX4, "firstError", "()I"⟩
abbrev cX4_buyAll : ByteArray := prog_1_method_13_code
def yX4_buyAll : MethodName := ⟨RX4, "buyAll", "()I"⟩
abbrev cX4_undo : ByteArray := prog_1_method_14_code
def yX4_undo : MethodName := ⟨RX4, "undo", "()I"⟩
abbrev cX4_hose : ByteArray := prog_1_method_15_code
def yX4_hose : MethodName := ⟨RX4, "hose", "(II)I"⟩
abbrev cX4_truck : ByteArray := prog_1_method_16_code
def yX4_truck : MethodName := ⟨RX4, "truck", "(II)I"⟩
abbrev cX4_count : ByteArray := prog_1_method_17_code
def yX4_count : MethodName := ⟨RX4, "count", "(I)I"⟩
abbrev cX4_setting : ByteArray := prog_1_method_18_code
def yX4_setting : MethodName := ⟨RX4, "setting", "(I)I"⟩
abbrev cX4_ifTested : ByteArray := prog_1_method_19_code
def yX4_ifTested : MethodName := ⟨RX4, "ifTested", "(II)I"⟩
abbrev cX4_safe : ByteArray := prog_1_method_20_code
def yX4_safe : MethodName := ⟨RX4, "safe", "(I)I"⟩
abbrev cX4_nextLapse : ByteArray := prog_1_method_21_code
def yX4_nextLapse : MethodName := ⟨RX4, "nextLapse", "()I"⟩
abbrev cX4_helps : ByteArray := prog_1_method_22_code
def yX4_helps : MethodName := ⟨RX4, "helps", "(I)I"⟩
abbrev cX4_readyShare : ByteArray := prog_1_method_23_code
def yX4_readyShare : MethodName := ⟨RX4, "readyShare", "()D"⟩
abbrev cX4_digest : ByteArray := prog_1_method_24_code
def yX4_digest : MethodName := ⟨RX4, "digest", "()J"⟩
abbrev cX4_isWithin : ByteArray := prog_1_method_25_code
def yX4_isWithin : MethodName := ⟨RX4, "isWithin", "(III)Z"⟩
abbrev cX4_requireHose : ByteArray := prog_1_method_26_code
def yX4_requireHose : MethodName := ⟨RX4, "requireHose", "(I)V"⟩
abbrev cX4_requireAtHand : ByteArray := prog_1_method_27_code
def yX4_requireAtHand : MethodName := ⟨RX4, "requireAtHand", "(I)V"⟩
abbrev cX4_requireTruck : ByteArray := prog_1_method_28_code
def yX4_requireTruck : MethodName := ⟨RX4, "requireTruck", "(I)V"⟩
abbrev cX4_requireSetting : ByteArray := prog_1_method_29_code
def yX4_requireSetting : MethodName := ⟨RX4, "requireSetting", "(I)V"⟩
abbrev cX4_requirePressure : ByteArray := prog_1_method_30_code
def yX4_requirePressure : MethodName := ⟨RX4, "requirePressure", "(I)V"⟩
abbrev cX4_leastOfSetting : ByteArray := prog_1_method_31_code
def yX4_leastOfSetting : MethodName := ⟨RX4, "leastOfSetting", "(I)I"⟩
abbrev cX4_greatestOfSetting : ByteArray := prog_1_method_32_code
def yX4_greatestOfSetting : MethodName := ⟨RX4, "greatestOfSetting", "(I)I"⟩
abbrev cX4_saveState : ByteArray := prog_1_method_33_code
def yX4_saveState : MethodName := ⟨RX4, "saveState", "()V"⟩
abbrev cX4_buyParts : ByteArray := prog_1_method_34_code
def yX4_buyParts : MethodName := ⟨RX4, "buyParts", "()I"⟩
abbrev cX4_mixed : ByteArray := prog_1_method_35_code
def yX4_mixed : MethodName := ⟨RX4, "mixed", "(JJ)J"⟩
abbrev cX4_bitsOfShare : ByteArray := prog_1_method_36_code
def yX4_bitsOfShare : MethodName := ⟨RX4, "bitsOfShare", "(D)J"⟩
def RX5 : String := "HoseTestsModel"
def TX5 : u_T := fun k => match k with
  | 0 => ("HoseTestsModel", "now", "[I", true)
  | 1 => ("HoseTestsModel", "past", "[I", true)
  | 2 => ("HoseTestsModel", "kept", "I", false)
  | 3 => ("HoseTestsModel", "text", "[I", true)
  | 4 => ("HoseTestsModel", "typed", "I", false)
  | 5 => ("HoseTestsModel", "thrown", "I", false)
  | 6 => ("HoseTestsModel", "at", "I", false)
  | 7 => ("HoseTestsModel", "isFault", "Z", false)
  | 8 => ("HoseTestsModel", "told", "[I", true)
  | 9 => ("HoseTestsModel", "tolds", "I", false)
  | 10 => ("HoseTestsModel", "worn", "I", false)
  | 11 => ("HoseTestsModel", "line", "I", false)
  | 12 => ("HoseTestsModel", "adapters", "I", false)
  | _ => ("HoseTestsModel", "inLine", "I", false)
def tyX5 : Nat → FieldType := fun k => match k with
  | 0 => .array .int
  | 1 => .array .int
  | 2 => .int
  | 3 => .array .int
  | 4 => .int
  | 5 => .int
  | 6 => .int
  | 7 => .boolean
  | 8 => .array .int
  | 9 => .int
  | 10 => .int
  | 11 => .int
  | 12 => .int
  | _ => .int
abbrev wsX50 : List Cond := u_ws RX5 TX5 14
theorem nmX5 : ∀ a, a < 14 → ∀ b, b < 14 → a ≠ b → (TX5 a).2.1 ≠ (TX5 b).2.1 := by decide +kernel
theorem tyX5_ok : ∀ k, k < 14 → parseFieldDescriptor (TX5 k).2.2.1 = some (tyX5 k) := by decide +kernel
abbrev cX5_init : ByteArray := prog_7_method_1_code
def yX5_init : MethodName := ⟨RX5, "<init>", "()V"⟩
abbrev cX5_thrown : ByteArray := prog_7_method_2_code
def yX5_thrown : MethodName := ⟨RX5, "thrown", "()I"⟩
abbrev cX5_fails : ByteArray := prog_7_method_3_code
def yX5_fails : MethodName := ⟨RX5, "fails", "(I)I"⟩
abbrev cX5_in : ByteArray := prog_7_method_4_code
def yX5_in : MethodName := ⟨RX5, "in", "(III)Z"⟩
abbrev cX5_isHose : ByteArray := prog_7_method_5_code
def yX5_isHose : MethodName := ⟨RX5, "isHose", "(I)Z"⟩
abbrev cX5_isTruck : ByteArray := prog_7_method_6_code
def yX5_isTruck : MethodName := ⟨RX5, "isTruck", "(I)Z"⟩
abbrev cX5_of : ByteArray := prog_7_method_7_code
def yX5_of : MethodName := ⟨RX5, "of", "(II)I"⟩
abbrev cX5_saves : ByteArray := prog_7_method_8_code
def yX5_saves : MethodName := ⟨RX5, "saves", "()V"⟩
abbrev cX5_undo : ByteArray := prog_7_method_9_code
def yX5_undo : MethodName := ⟨RX5, "undo", "()I"⟩
abbrev cX5_life : ByteArray := prog_7_method_10_code
def yX5_life : MethodName := ⟨RX5, "life", "(I)I"⟩
abbrev cX5_force : ByteArray := prog_7_method_11_code
def yX5_force : MethodName := ⟨RX5, "force", "(I)I"⟩
abbrev cX5_cost : ByteArray := prog_7_method_12_code
def yX5_cost : MethodName := ⟨RX5, "cost", "(II)I"⟩
abbrev cX5_strength : ByteArray := prog_7_method_13_code
def yX5_strength : MethodName := ⟨RX5, "strength", "(II)I"⟩
abbrev cX5_reason : ByteArray := prog_7_method_14_code
def yX5_reason : MethodName := ⟨RX5, "reason", "(I)I"⟩
abbrev cX5_isReady : ByteArray := prog_7_method_15_code
def yX5_isReady : MethodName := ⟨RX5, "isReady", "(I)Z"⟩
abbrev cX5_tries : ByteArray := prog_7_method_16_code
def yX5_tries : MethodName := ⟨RX5, "tries", "(II)I"⟩
abbrev cX5_lays : ByteArray := prog_7_method_17_code
def yX5_lays : MethodName := ⟨RX5, "lays", "(II)V"⟩
abbrev cX5_isWhole : ByteArray := prog_7_method_18_code
def yX5_isWhole : MethodName := ⟨RX5, "isWhole", "(II)Z"⟩
abbrev cX5_mayBuy : ByteArray := prog_7_method_19_code
def yX5_mayBuy : MethodName := ⟨RX5, "mayBuy", "(II)Z"⟩
abbrev cX5_buys : ByteArray := prog_7_method_20_code
def yX5_buys : MethodName := ⟨RX5, "buys", "(IIII)I"⟩
abbrev cX5_buy : ByteArray := prog_7_method_21_code
def yX5_buy : MethodName := ⟨RX5, "buy", "(III)I"⟩
abbrev cX5_isHere : ByteArray := prog_7_method_22_code
def yX5_isHere : MethodName := ⟨RX5, "isHere", "(I)Z"⟩
abbrev cX5_changes : ByteArray := prog_7_method_23_code
def yX5_changes : MethodName := ⟨RX5, "changes", "(II)I"⟩
abbrev cX5_renew : ByteArray := prog_7_method_24_code
def yX5_renew : MethodName := ⟨RX5, "renew", "(I)I"⟩
abbrev cX5_put : ByteArray := prog_7_method_25_code
def yX5_put : MethodName := ⟨RX5, "put", "(II)I"⟩
abbrev cX5_lend : ByteArray := prog_7_method_26_code
def yX5_lend : MethodName := ⟨RX5, "lend", "(II)I"⟩
abbrev cX5_test : ByteArray := prog_7_method_27_code
def yX5_test : MethodName := ⟨RX5, "test", "(II)I"⟩
abbrev cX5_want : ByteArray := prog_7_method_28_code
def yX5_want : MethodName := ⟨RX5, "want", "(II)I"⟩
abbrev cX5_set : ByteArray := prog_7_method_29_code
def yX5_set : MethodName := ⟨RX5, "set", "(II)I"⟩
abbrev cX5_day : ByteArray := prog_7_method_30_code
def yX5_day : MethodName := ⟨RX5, "day", "()V"⟩
abbrev cX5_pass : ByteArray := prog_7_method_31_code
def yX5_pass : MethodName := ⟨RX5, "pass", "(I)I"⟩
abbrev cX5_append : ByteArray := prog_7_method_32_code
def yX5_append : MethodName := ⟨RX5, "append", "(I)I"⟩
abbrev cX5_clearBuffer : ByteArray := prog_7_method_33_code
def yX5_clearBuffer : MethodName := ⟨RX5, "clearBuffer", "()I"⟩
abbrev cX5_isAt : ByteArray := prog_7_method_34_code
def yX5_isAt : MethodName := ⟨RX5, "isAt", "(II)Z"⟩
abbrev cX5_stops : ByteArray := prog_7_method_35_code
def yX5_stops : MethodName := ⟨RX5, "stops", "()Z"⟩
abbrev cX5_isLength : ByteArray := prog_7_method_36_code
def yX5_isLength : MethodName := ⟨RX5, "isLength", "()Z"⟩
abbrev cX5_isPart : ByteArray := prog_7_method_37_code
def yX5_isPart : MethodName := ⟨RX5, "isPart", "()Z"⟩
abbrev cX5_isText : ByteArray := prog_7_method_38_code
def yX5_isText : MethodName := ⟨RX5, "isText", "()Z"⟩
abbrev cX5_firstError : ByteArray := prog_7_method_39_code
def yX5_firstError : MethodName := ⟨RX5, "firstError", "()I"⟩
abbrev cX5_buyAll : ByteArray := prog_7_method_40_code
def yX5_buyAll : MethodName := ⟨RX5, "buyAll", "()I"⟩
abbrev cX5_ofHose : ByteArray := prog_7_method_41_code
def yX5_ofHose : MethodName := ⟨RX5, "ofHose", "(II)I"⟩
abbrev cX5_hose : ByteArray := prog_7_method_42_code
def yX5_hose : MethodName := ⟨RX5, "hose", "(II)I"⟩
abbrev cX5_on : ByteArray := prog_7_method_43_code
def yX5_on : MethodName := ⟨RX5, "on", "(IZ)I"⟩
abbrev cX5_ofTruck : ByteArray := prog_7_method_44_code
def yX5_ofTruck : MethodName := ⟨RX5, "ofTruck", "(II)I"⟩
abbrev cX5_truck : ByteArray := prog_7_method_45_code
def yX5_truck : MethodName := ⟨RX5, "truck", "(II)I"⟩
abbrev cX5_having : ByteArray := prog_7_method_46_code
def yX5_having : MethodName := ⟨RX5, "having", "(I)I"⟩
abbrev cX5_counted : ByteArray := prog_7_method_47_code
def yX5_counted : MethodName := ⟨RX5, "counted", "(I)I"⟩
abbrev cX5_count : ByteArray := prog_7_method_48_code
def yX5_count : MethodName := ⟨RX5, "count", "(I)I"⟩
abbrev cX5_setting : ByteArray := prog_7_method_49_code
def yX5_setting : MethodName := ⟨RX5, "setting", "(I)I"⟩
abbrev cX5_tried : ByteArray := prog_7_method_50_code
def yX5_tried : MethodName := ⟨RX5, "tried", "(II)I"⟩
abbrev cX5_ifTested : ByteArray := prog_7_method_51_code
def yX5_ifTested : MethodName := ⟨RX5, "ifTested", "(II)I"⟩
abbrev cX5_greatest : ByteArray := prog_7_method_52_code
def yX5_greatest : MethodName := ⟨RX5, "greatest", "(I)I"⟩
abbrev cX5_safe : ByteArray := prog_7_method_53_code
def yX5_safe : MethodName := ⟨RX5, "safe", "(I)I"⟩
abbrev cX5_lapses : ByteArray := prog_7_method_54_code
def yX5_lapses : MethodName := ⟨RX5, "lapses", "()I"⟩
abbrev cX5_nextLapse : ByteArray := prog_7_method_55_code
def yX5_nextLapse : MethodName := ⟨RX5, "nextLapse", "()I"⟩
abbrev cX5_cheapest : ByteArray := prog_7_method_56_code
def yX5_cheapest : MethodName := ⟨RX5, "cheapest", "(I)I"⟩
abbrev cX5_helps : ByteArray := prog_7_method_57_code
def yX5_helps : MethodName := ⟨RX5, "helps", "(I)I"⟩
abbrev cX5_share : ByteArray := prog_7_method_58_code
def yX5_share : MethodName := ⟨RX5, "share", "()D"⟩
abbrev cX5_readyShare : ByteArray := prog_7_method_59_code
def yX5_readyShare : MethodName := ⟨RX5, "readyShare", "()D"⟩
abbrev cX5_digest : ByteArray := prog_7_method_60_code
def yX5_digest : MethodName := ⟨RX5, "digest", "()J"⟩
def RJxe99ae : String := "java/lang/Double"
def TJxe99ae : u_T := fun k => match k with
  | _ => ("", "", "", false)
def tyJxe99ae : Nat → FieldType := fun k => match k with
  | _ => .int
abbrev wsJxe99ae0 : List Cond := u_ws RJxe99ae TJxe99ae 0
theorem nmJxe99ae : ∀ a, a < 0 → ∀ b, b < 0 → a ≠ b → (TJxe99ae a).2.1 ≠ (TJxe99ae b).2.1 := by decide +kernel
theorem tyJxe99ae_ok : ∀ k, k < 0 → parseFieldDescriptor (TJxe99ae k).2.2.1 = some (tyJxe99ae k) := by decide +kernel
abbrev cJxe99ae_isNaN_b9ae7 : ByteArray := prog_8_method_6_code
def yJxe99ae_isNaN_b9ae7 : MethodName := ⟨RJxe99ae, "isNaN", "(D)Z"⟩
abbrev cJxe99ae_doubleToLongBits_ccdee : ByteArray := prog_8_method_23_code
def yJxe99ae_doubleToLongBits_ccdee : MethodName := ⟨RJxe99ae, "doubleToLongBits", "(D)J"⟩
def RJ9 : String := "java/lang/Math"
def TJ9 : u_T := fun k => match k with
  | _ => ("", "", "", false)
def tyJ9 : Nat → FieldType := fun k => match k with
  | _ => .int
abbrev wsJ90 : List Cond := u_ws RJ9 TJ9 0
theorem nmJ9 : ∀ a, a < 0 → ∀ b, b < 0 → a ≠ b → (TJ9 a).2.1 ≠ (TJ9 b).2.1 := by decide +kernel
theorem tyJ9_ok : ∀ k, k < 0 → parseFieldDescriptor (TJ9 k).2.2.1 = some (tyJ9 k) := by decide +kernel
abbrev cJ9_max_7cf53 : ByteArray := prog_13_method_65_code
def yJ9_max_7cf53 : MethodName := ⟨RJ9, "max", "(II)I"⟩
abbrev cJ9_min_7cf53 : ByteArray := prog_13_method_69_code
def yJ9_min_7cf53 : MethodName := ⟨RJ9, "min", "(II)I"⟩
def RJ0 : String := "java/lang/String"
def TJ0 : u_T := fun k => match k with
  | _ => ("", "", "", false)
def tyJ0 : Nat → FieldType := fun k => match k with
  | _ => .int
abbrev wsJ00 : List Cond := u_ws RJ0 TJ0 0
theorem nmJ0 : ∀ a, a < 0 → ∀ b, b < 0 → a ≠ b → (TJ0 a).2.1 ≠ (TJ0 b).2.1 := by decide +kernel
theorem tyJ0_ok : ∀ k, k < 0 → parseFieldDescriptor (TJ0 k).2.2.1 = some (tyJ0 k) := by decide +kernel
def RJ10 : String := "java/lang/System"
def TJ10 : u_T := fun k => match k with
  | _ => ("", "", "", false)
def tyJ10 : Nat → FieldType := fun k => match k with
  | _ => .int
abbrev wsJ100 : List Cond := u_ws RJ10 TJ10 0
theorem nmJ10 : ∀ a, a < 0 → ∀ b, b < 0 → a ≠ b → (TJ10 a).2.1 ≠ (TJ10 b).2.1 := by decide +kernel
theorem tyJ10_ok : ∀ k, k < 0 → parseFieldDescriptor (TJ10 k).2.2.1 = some (tyJ10 k) := by decide +kernel
def RL : String := "HoseTestsLaw"
abbrev cL_buy : ByteArray := method_3_code
def yL_buy : MethodName := ⟨RL, "buy", "(LHoseTests;III[J)I"⟩
abbrev cL_renew : ByteArray := method_4_code
def yL_renew : MethodName := ⟨RL, "renew", "(LHoseTests;I[J)I"⟩
abbrev cL_put : ByteArray := method_5_code
def yL_put : MethodName := ⟨RL, "put", "(LHoseTests;II[J)I"⟩
abbrev cL_lend : ByteArray := method_6_code
def yL_lend : MethodName := ⟨RL, "lend", "(LHoseTests;II[J)I"⟩
abbrev cL_test : ByteArray := method_7_code
def yL_test : MethodName := ⟨RL, "test", "(LHoseTests;II[J)I"⟩
abbrev cL_want : ByteArray := method_8_code
def yL_want : MethodName := ⟨RL, "want", "(LHoseTests;II[J)I"⟩
abbrev cL_set : ByteArray := method_9_code
def yL_set : MethodName := ⟨RL, "set", "(LHoseTests;II[J)I"⟩
abbrev cL_pass : ByteArray := method_10_code
def yL_pass : MethodName := ⟨RL, "pass", "(LHoseTests;I[J)I"⟩
abbrev cL_append : ByteArray := method_11_code
def yL_append : MethodName := ⟨RL, "append", "(LHoseTests;I[J)I"⟩
abbrev cL_buyAll : ByteArray := method_12_code
def yL_buyAll : MethodName := ⟨RL, "buyAll", "(LHoseTests;[J)I"⟩
abbrev cL_undo : ByteArray := method_13_code
def yL_undo : MethodName := ⟨RL, "undo", "(LHoseTests;[J)I"⟩
abbrev cL_hose : ByteArray := method_14_code
def yL_hose : MethodName := ⟨RL, "hose", "(LHoseTests;II[J)I"⟩
abbrev cL_truck : ByteArray := method_15_code
def yL_truck : MethodName := ⟨RL, "truck", "(LHoseTests;II[J)I"⟩
abbrev cL_count : ByteArray := method_16_code
def yL_count : MethodName := ⟨RL, "count", "(LHoseTests;I[J)I"⟩
abbrev cL_setting : ByteArray := method_17_code
def yL_setting : MethodName := ⟨RL, "setting", "(LHoseTests;I[J)I"⟩
abbrev cL_ifTested : ByteArray := method_18_code
def yL_ifTested : MethodName := ⟨RL, "ifTested", "(LHoseTests;II[J)I"⟩
abbrev cL_safe : ByteArray := method_19_code
def yL_safe : MethodName := ⟨RL, "safe", "(LHoseTests;I[J)I"⟩
abbrev cL_helps : ByteArray := method_20_code
def yL_helps : MethodName := ⟨RL, "helps", "(LHoseTests;I[J)I"⟩
abbrev cL_law : ByteArray := code
def yL_law : MethodName := ⟨RL, "law", "([I)Z"⟩
def wsL_law0_r1 : List Cond := [Cond.classLink RL 8 RX4, Cond.instantiable RX4 5, Cond.initialized RX4, Cond.classLink RL 74 RX5, Cond.instantiable RX5 14, Cond.initialized RX5, Cond.arrayClass .long, Cond.methodLink RL 73 yX4_init, Cond.instanceMethod yX4_init, Cond.code yX4_init cX4_init 2 none, Cond.methodLink RX4 1 objectInit, Cond.instanceMethod objectInit, Cond.code objectInit ⟨#[0xb1]⟩ 1 none, Cond.classLink RX4 7 RX3, Cond.instantiable RX3 17, Cond.initialized RX3, Cond.fieldLink RX4 10 "HoseTests" "now" "LHoseTests$Station;", Cond.fieldLink RX4 16 "HoseTests" "saved" "[LHoseTests$Station;", Cond.fieldLink RX4 20 "HoseTests" "latestSaved" "I", Cond.fieldLink RX4 24 "HoseTests" "savedStates" "I", Cond.classLink RX4 27 RX0, Cond.instantiable RX0 2, Cond.initialized RX0, Cond.fieldLink RX4 30 "HoseTests" "text" "LHoseTests$HoseText;"]
def wsL_law0_r2 : List Cond := [Cond.methodLink RX4 9 yX3_init, Cond.instanceMethod yX3_init, Cond.code yX3_init cX3_init 1 none, Cond.methodLink RX3 3 objectInit, Cond.fieldLink RX3 9 "HoseTests$Station" "day" "I", Cond.fieldLink RX3 15 "HoseTests$Station" "money" "I", Cond.arrayClass .int, Cond.fieldLink RX3 18 "HoseTests$Station" "wanted" "[I", Cond.fieldLink RX3 22 "HoseTests$Station" "settings" "[I", Cond.fieldLink RX3 25 "HoseTests$Station" "kind" "[I", Cond.fieldLink RX3 28 "HoseTests$Station" "length" "[I", Cond.fieldLink RX3 31 "HoseTests$Station" "coupling" "[I", Cond.fieldLink RX3 34 "HoseTests$Station" "made" "[I", Cond.fieldLink RX3 37 "HoseTests$Station" "wear" "[I", Cond.fieldLink RX3 40 "HoseTests$Station" "lastTestDay" "[I", Cond.fieldLink RX3 43 "HoseTests$Station" "place" "[I", Cond.fieldLink RX3 46 "HoseTests$Station" "backDay" "[I", Cond.classLink RX3 49 RX2, Cond.instantiable RX2 4, Cond.initialized RX2, Cond.fieldLink RX3 52 "HoseTests$Station" "line" "LHoseTests$Line;", Cond.instanceMethod yX2_init, Cond.code yX2_init cX2_init 1 none, Cond.methodLink RX2 3 objectInit]
def wsL_law0_r3 : List Cond := [Cond.methodLink RX4 29 yX0_init, Cond.instanceMethod yX0_init, Cond.code yX0_init cX0_init 1 none, Cond.methodLink RX0 3 objectInit, Cond.fieldLink RX0 11 "HoseTests$HoseText" "codes" "[I", Cond.fieldLink RX0 15 "HoseTests$HoseText" "size" "I", Cond.methodLink RL 76 yX5_init, Cond.instanceMethod yX5_init, Cond.code yX5_init cX5_init 2 none, Cond.methodLink RX5 1 objectInit, Cond.fieldLink RX5 7 "HoseTestsModel" "now" "[I", Cond.fieldLink RX5 13 "HoseTestsModel" "past" "[I", Cond.fieldLink RX5 16 "HoseTestsModel" "text" "[I", Cond.fieldLink RX5 19 "HoseTestsModel" "told" "[I", Cond.methodLink RL 77 yL_buy, Cond.static yL_buy, Cond.initialized RL, Cond.codeWith yL_buy cL_buy 6 (some .int) [(0, 12, 15, 13), (0, 12, 19, 15)], Cond.classLink RL 13 "java/lang/IllegalArgumentException", Cond.classLink RL 15 "java/lang/IllegalStateException", Cond.methodLink RL 7 yX4_buy, Cond.instanceMethod yX4_buy, Cond.selects RX4 yX4_buy yX4_buy, Cond.code yX4_buy cX4_buy 4 (some .int)]
def wsL_law0_r4 : List Cond := [Cond.classLink RX4 38 "java/lang/IllegalArgumentException", Cond.initialized "java/lang/IllegalArgumentException", Cond.classLink RX4 49 "java/lang/IllegalStateException", Cond.initialized "java/lang/IllegalStateException", Cond.methodLink RX4 34 yX4_isWithin, Cond.static yX4_isWithin, Cond.code yX4_isWithin cX4_isWithin 3 (some .boolean), Cond.methodLink RX4 45 yX3_canBuy, Cond.instanceMethod yX3_canBuy, Cond.selects RX3 yX3_canBuy yX3_canBuy, Cond.code yX3_canBuy cX3_canBuy 3 (some .boolean), Cond.fieldLink RX3 56 "HoseTests$Station" "hoses" "I", Cond.methodLink RX3 98 yX1_costOf, Cond.static yX1_costOf, Cond.initialized RX1, Cond.code yX1_costOf cX1_costOf 2 (some .int), Cond.methodLink RX4 54 yX4_saveState, Cond.instanceMethod yX4_saveState, Cond.selects RX4 yX4_saveState yX4_saveState, Cond.code yX4_saveState cX4_saveState 2 none, Cond.methodLink RX4 158 yX3_copyFrom, Cond.instanceMethod yX3_copyFrom, Cond.selects RX3 yX3_copyFrom yX3_copyFrom, Cond.code yX3_copyFrom cX3_copyFrom 2 none]
def wsL_law0_r5 : List Cond := [Cond.fieldLink RX3 59 "HoseTests$Station" "tests" "I", Cond.fieldLink RX3 62 "HoseTests$Station" "bursts" "I", Cond.fieldLink RX3 65 "HoseTests$Station" "paid" "I", Cond.methodLink RX3 68 arraycopyName, Cond.native arraycopyName, Cond.static arraycopyName, Cond.initialized "java/lang/System", Cond.methodLink RX4 57 yX3_addHose, Cond.instanceMethod yX3_addHose, Cond.selects RX3 yX3_addHose yX3_addHose, Cond.code yX3_addHose cX3_addHose 6 (some .int), Cond.methodLink RX3 102 yX3_priceOf, Cond.instanceMethod yX3_priceOf, Cond.selects RX3 yX3_priceOf yX3_priceOf, Cond.code yX3_priceOf cX3_priceOf 2 (some .int), Cond.methodLink RL 82 yX5_buy, Cond.instanceMethod yX5_buy, Cond.selects RX5 yX5_buy yX5_buy, Cond.code yX5_buy cX5_buy 4 (some .int), Cond.fieldLink RX5 22 "HoseTestsModel" "thrown" "I", Cond.methodLink RX5 26 yX5_in, Cond.static yX5_in, Cond.code yX5_in cX5_in 3 (some .boolean), Cond.methodLink RX5 33 yX5_fails]
def wsL_law0_r6 : List Cond := [Cond.instanceMethod yX5_fails, Cond.selects RX5 yX5_fails yX5_fails, Cond.code yX5_fails cX5_fails 2 (some .int), Cond.methodLink RX5 73 yX5_mayBuy, Cond.instanceMethod yX5_mayBuy, Cond.selects RX5 yX5_mayBuy yX5_mayBuy, Cond.code yX5_mayBuy cX5_mayBuy 3 (some .boolean), Cond.methodLink RX5 70 yX5_cost, Cond.static yX5_cost, Cond.code yX5_cost cX5_cost 2 (some .int), Cond.methodLink RX5 77 yX5_saves, Cond.instanceMethod yX5_saves, Cond.selects RX5 yX5_saves yX5_saves, Cond.code yX5_saves cX5_saves 2 none, Cond.fieldLink RX5 30 "HoseTestsModel" "kept" "I", Cond.methodLink RX5 80 yX5_buys, Cond.instanceMethod yX5_buys, Cond.selects RX5 yX5_buys yX5_buys, Cond.code yX5_buys cX5_buys 6 (some .int), Cond.methodLink RL 83 yX5_thrown, Cond.instanceMethod yX5_thrown, Cond.selects RX5 yX5_thrown yX5_thrown, Cond.code yX5_thrown cX5_thrown 1 (some .int), Cond.methodLink RL 86 yL_renew]
def wsL_law0_r7 : List Cond := [Cond.static yL_renew, Cond.codeWith yL_renew cL_renew 4 (some .int) [(0, 9, 12, 21), (0, 9, 15, 15)], Cond.classLink RL 21 "java/lang/IndexOutOfBoundsException", Cond.methodLink RL 17 yX4_renew, Cond.instanceMethod yX4_renew, Cond.selects RX4 yX4_renew yX4_renew, Cond.code yX4_renew cX4_renew 2 (some .int), Cond.fieldLink RX4 68 "HoseTests$Station" "kind" "[I", Cond.fieldLink RX4 72 "HoseTests$Station" "length" "[I", Cond.methodLink RX4 61 yX4_requireHose, Cond.instanceMethod yX4_requireHose, Cond.selects RX4 yX4_requireHose yX4_requireHose, Cond.code yX4_requireHose cX4_requireHose 2 none, Cond.classLink RX4 287 "java/lang/IndexOutOfBoundsException", Cond.initialized "java/lang/IndexOutOfBoundsException", Cond.fieldLink RX4 216 "HoseTests$Station" "hoses" "I", Cond.methodLink RX4 65 yX4_requireAtHand, Cond.instanceMethod yX4_requireAtHand, Cond.selects RX4 yX4_requireAtHand yX4_requireAtHand, Cond.code yX4_requireAtHand cX4_requireAtHand 2 none, Cond.methodLink RX4 234 yX3_isGone, Cond.instanceMethod yX3_isGone, Cond.selects RX3 yX3_isGone yX3_isGone, Cond.code yX3_isGone cX3_isGone 2 (some .boolean)]
def wsL_law0_r8 : List Cond := [Cond.methodLink RX4 292 yX3_isLent, Cond.instanceMethod yX3_isLent, Cond.selects RX3 yX3_isLent yX3_isLent, Cond.code yX3_isLent cX3_isLent 2 (some .boolean), Cond.methodLink RX4 75 yX3_replaceHose, Cond.instanceMethod yX3_replaceHose, Cond.selects RX3 yX3_replaceHose yX3_replaceHose, Cond.code yX3_replaceHose cX3_replaceHose 3 (some .int), Cond.methodLink RX3 105 yX3_addHose, Cond.methodLink RL 89 yX5_renew, Cond.instanceMethod yX5_renew, Cond.selects RX5 yX5_renew yX5_renew, Cond.code yX5_renew cX5_renew 3 (some .int), Cond.methodLink RX5 84 yX5_isHose, Cond.instanceMethod yX5_isHose, Cond.selects RX5 yX5_isHose yX5_isHose, Cond.code yX5_isHose cX5_isHose 2 (some .boolean), Cond.methodLink RX5 87 yX5_isHere, Cond.instanceMethod yX5_isHere, Cond.selects RX5 yX5_isHere yX5_isHere, Cond.code yX5_isHere cX5_isHere 2 (some .boolean), Cond.methodLink RX5 37 yX5_of, Cond.instanceMethod yX5_of, Cond.selects RX5 yX5_of yX5_of]
def wsL_law0_r9 : List Cond := [Cond.code yX5_of cX5_of 3 (some .int), Cond.methodLink RX5 90 yX5_changes, Cond.instanceMethod yX5_changes, Cond.selects RX5 yX5_changes yX5_changes, Cond.code yX5_changes cX5_changes 4 (some .int), Cond.methodLink RL 90 yL_put, Cond.static yL_put, Cond.codeWith yL_put cL_put 5 (some .int) [(0, 10, 13, 21), (0, 10, 17, 13), (0, 10, 21, 15)], Cond.methodLink RL 23 yX4_put, Cond.instanceMethod yX4_put, Cond.selects RX4 yX4_put yX4_put, Cond.code yX4_put cX4_put 4 (some .int), Cond.fieldLink RX4 81 "HoseTests$Station" "place" "[I", Cond.methodLink RL 93 yX5_put, Cond.instanceMethod yX5_put, Cond.selects RX5 yX5_put yX5_put, Cond.code yX5_put cX5_put 3 (some .int), Cond.methodLink RL 94 yL_lend, Cond.static yL_lend, Cond.codeWith yL_lend cL_lend 5 (some .int) [(0, 10, 13, 21), (0, 10, 17, 13), (0, 10, 21, 15)], Cond.methodLink RL 27 yX4_lend, Cond.instanceMethod yX4_lend, Cond.selects RX4 yX4_lend yX4_lend, Cond.code yX4_lend cX4_lend 3 (some .int)]
def wsL_law0_r10 : List Cond := [Cond.methodLink RX4 86 yX3_isReady, Cond.instanceMethod yX3_isReady, Cond.selects RX3 yX3_isReady yX3_isReady, Cond.code yX3_isReady cX3_isReady 2 (some .boolean), Cond.methodLink RX3 78 yX3_reasonOf, Cond.instanceMethod yX3_reasonOf, Cond.selects RX3 yX3_reasonOf yX3_reasonOf, Cond.code yX3_reasonOf cX3_reasonOf 2 (some .int), Cond.methodLink RX3 82 yX3_isGone, Cond.methodLink RX3 86 yX3_isLent, Cond.methodLink RX3 89 yX1_lifeOf, Cond.static yX1_lifeOf, Cond.code yX1_lifeOf cX1_lifeOf 1 (some .int), Cond.methodLink RX4 92 yX3_lendOut, Cond.instanceMethod yX3_lendOut, Cond.selects RX3 yX3_lendOut yX3_lendOut, Cond.code yX3_lendOut cX3_lendOut 3 (some .int), Cond.methodLink RL 96 yX5_lend, Cond.instanceMethod yX5_lend, Cond.selects RX5 yX5_lend yX5_lend, Cond.code yX5_lend cX5_lend 3 (some .int), Cond.methodLink RX5 62 yX5_isReady, Cond.instanceMethod yX5_isReady, Cond.selects RX5 yX5_isReady yX5_isReady]
def wsL_law0_r11 : List Cond := [Cond.code yX5_isReady cX5_isReady 2 (some .boolean), Cond.methodLink RX5 44 yX5_reason, Cond.instanceMethod yX5_reason, Cond.selects RX5 yX5_reason yX5_reason, Cond.code yX5_reason cX5_reason 3 (some .int), Cond.methodLink RX5 41 yX5_life, Cond.static yX5_life, Cond.code yX5_life cX5_life 1 (some .int), Cond.methodLink RL 97 yL_test, Cond.static yL_test, Cond.codeWith yL_test cL_test 5 (some .int) [(0, 10, 13, 21), (0, 10, 17, 13), (0, 10, 21, 15)], Cond.methodLink RL 30 yX4_test, Cond.instanceMethod yX4_test, Cond.selects RX4 yX4_test yX4_test, Cond.code yX4_test cX4_test 3 (some .int), Cond.methodLink RX4 96 yX4_requirePressure, Cond.static yX4_requirePressure, Cond.code yX4_requirePressure cX4_requirePressure 1 none, Cond.methodLink RX4 99 yX3_runTest, Cond.instanceMethod yX3_runTest, Cond.selects RX3 yX3_runTest yX3_runTest, Cond.code yX3_runTest cX3_runTest 5 (some .int), Cond.methodLink RX3 112 Lib.Math.min.name, Cond.static Lib.Math.min.name]
def wsL_law0_r12 : List Cond := [Cond.initialized "java/lang/Math", Cond.code Lib.Math.min.name Lib.Math.min.code 2 (some .int), Cond.methodLink RX3 123 yX3_outcomeOf, Cond.instanceMethod yX3_outcomeOf, Cond.selects RX3 yX3_outcomeOf yX3_outcomeOf, Cond.code yX3_outcomeOf cX3_outcomeOf 4 (some .int), Cond.methodLink RX3 120 yX3_stepsHeld, Cond.instanceMethod yX3_stepsHeld, Cond.selects RX3 yX3_stepsHeld yX3_stepsHeld, Cond.code yX3_stepsHeld cX3_stepsHeld 7 (some .int), Cond.methodLink RX3 109 yX3_stepsUpTo, Cond.static yX3_stepsUpTo, Cond.code yX3_stepsUpTo cX3_stepsUpTo 1 (some .int), Cond.methodLink RX3 117 yX3_strengthAt, Cond.instanceMethod yX3_strengthAt, Cond.selects RX3 yX3_strengthAt yX3_strengthAt, Cond.code yX3_strengthAt cX3_strengthAt 3 (some .int), Cond.methodLink RX3 94 yX1_strengthOf, Cond.static yX1_strengthOf, Cond.code yX1_strengthOf cX1_strengthOf 3 (some .int), Cond.methodLink RX1 9 Lib.Math.max.name, Cond.static Lib.Math.max.name, Cond.code Lib.Math.max.name Lib.Math.max.code 2 (some .int), Cond.methodLink RX3 126 yX1_daysInForce]
def wsL_law0_r13 : List Cond := [Cond.static yX1_daysInForce, Cond.code yX1_daysInForce cX1_daysInForce 1 (some .int), Cond.methodLink RL 99 yX5_test, Cond.instanceMethod yX5_test, Cond.selects RX5 yX5_test yX5_test, Cond.code yX5_test cX5_test 5 (some .int), Cond.fieldLink RX5 47 "HoseTestsModel" "worn" "I", Cond.methodLink RX5 93 yX5_tries, Cond.instanceMethod yX5_tries, Cond.selects RX5 yX5_tries yX5_tries, Cond.code yX5_tries cX5_tries 5 (some .int), Cond.methodLink RX5 50 yX5_strength, Cond.instanceMethod yX5_strength, Cond.selects RX5 yX5_strength yX5_strength, Cond.code yX5_strength cX5_strength 6 (some .int), Cond.methodLink RX5 96 yX5_force, Cond.static yX5_force, Cond.code yX5_force cX5_force 1 (some .int), Cond.methodLink RL 100 yL_want, Cond.static yL_want, Cond.codeWith yL_want cL_want 5 (some .int) [(0, 10, 13, 21), (0, 10, 17, 13)], Cond.methodLink RL 33 yX4_want, Cond.instanceMethod yX4_want, Cond.selects RX4 yX4_want yX4_want]
def wsL_law0_r14 : List Cond := [Cond.code yX4_want cX4_want 4 (some .int), Cond.fieldLink RX4 107 "HoseTests$Station" "wanted" "[I", Cond.methodLink RX4 102 yX4_requireTruck, Cond.static yX4_requireTruck, Cond.code yX4_requireTruck cX4_requireTruck 1 none, Cond.methodLink RL 102 yX5_want, Cond.instanceMethod yX5_want, Cond.selects RX5 yX5_want yX5_want, Cond.code yX5_want cX5_want 3 (some .int), Cond.methodLink RX5 99 yX5_isTruck, Cond.static yX5_isTruck, Cond.code yX5_isTruck cX5_isTruck 1 (some .boolean), Cond.methodLink RL 103 yL_set, Cond.static yL_set, Cond.codeWith yL_set cL_set 5 (some .int) [(0, 10, 13, 21), (0, 10, 17, 13)], Cond.methodLink RL 36 yX4_set, Cond.instanceMethod yX4_set, Cond.selects RX4 yX4_set yX4_set, Cond.code yX4_set cX4_set 4 (some .int), Cond.fieldLink RX4 121 "HoseTests$Station" "settings" "[I", Cond.methodLink RX4 110 yX4_requireSetting, Cond.static yX4_requireSetting, Cond.code yX4_requireSetting cX4_requireSetting 1 none, Cond.methodLink RX4 113 yX4_leastOfSetting]
def wsL_law0_r15 : List Cond := [Cond.static yX4_leastOfSetting, Cond.code yX4_leastOfSetting cX4_leastOfSetting 1 (some .int), Cond.methodLink RX4 116 yX4_greatestOfSetting, Cond.static yX4_greatestOfSetting, Cond.code yX4_greatestOfSetting cX4_greatestOfSetting 1 (some .int), Cond.methodLink RL 105 yX5_set, Cond.instanceMethod yX5_set, Cond.selects RX5 yX5_set yX5_set, Cond.code yX5_set cX5_set 3 (some .int), Cond.methodLink RL 106 yL_pass, Cond.static yL_pass, Cond.codeWith yL_pass cL_pass 4 (some .int) [(0, 9, 12, 13)], Cond.methodLink RL 39 yX4_pass, Cond.instanceMethod yX4_pass, Cond.selects RX4 yX4_pass yX4_pass, Cond.code yX4_pass cX4_pass 3 (some .int), Cond.fieldLink RX4 127 "HoseTests$Station" "day" "I", Cond.methodLink RX4 124 yX3_passDay, Cond.instanceMethod yX3_passDay, Cond.selects RX3 yX3_passDay yX3_passDay, Cond.code yX3_passDay cX3_passDay 1 none, Cond.methodLink RX3 129 yX3_takeBackLent, Cond.instanceMethod yX3_takeBackLent, Cond.selects RX3 yX3_takeBackLent yX3_takeBackLent]
def wsL_law0_r16 : List Cond := [Cond.code yX3_takeBackLent cX3_takeBackLent 2 none, Cond.methodLink RX3 132 yX3_wearOnTrucks, Cond.instanceMethod yX3_wearOnTrucks, Cond.selects RX3 yX3_wearOnTrucks yX3_wearOnTrucks, Cond.code yX3_wearOnTrucks cX3_wearOnTrucks 2 none, Cond.methodLink RX3 135 yX3_isOnTruck, Cond.instanceMethod yX3_isOnTruck, Cond.selects RX3 yX3_isOnTruck yX3_isOnTruck, Cond.code yX3_isOnTruck cX3_isOnTruck 2 (some .boolean), Cond.methodLink RX3 138 yX3_isReady, Cond.methodLink RL 108 yX5_pass, Cond.instanceMethod yX5_pass, Cond.selects RX5 yX5_pass yX5_pass, Cond.code yX5_pass cX5_pass 3 (some .int), Cond.methodLink RX5 102 yX5_day, Cond.instanceMethod yX5_day, Cond.selects RX5 yX5_day yX5_day, Cond.code yX5_day cX5_day 3 none, Cond.methodLink RL 109 yL_append, Cond.static yL_append, Cond.codeWith yL_append cL_append 4 (some .int) [(0, 9, 12, 13), (0, 9, 15, 15)], Cond.methodLink RL 42 yX4_append, Cond.instanceMethod yX4_append, Cond.selects RX4 yX4_append yX4_append]
def wsL_law0_r17 : List Cond := [Cond.code yX4_append cX4_append 2 (some .int), Cond.fieldLink RX4 141 "HoseTests$HoseText" "size" "I", Cond.methodLink RX4 132 yX0_isFull, Cond.instanceMethod yX0_isFull, Cond.selects RX0 yX0_isFull yX0_isFull, Cond.code yX0_isFull cX0_isFull 1 (some .boolean), Cond.methodLink RX4 138 yX0_addCode, Cond.instanceMethod yX0_addCode, Cond.selects RX0 yX0_addCode yX0_addCode, Cond.code yX0_addCode cX0_addCode 2 none, Cond.methodLink RL 111 yX5_append, Cond.instanceMethod yX5_append, Cond.selects RX5 yX5_append yX5_append, Cond.code yX5_append cX5_append 2 (some .int), Cond.fieldLink RX5 105 "HoseTestsModel" "typed" "I", Cond.methodLink RL 112 yX4_clearBuffer, Cond.instanceMethod yX4_clearBuffer, Cond.selects RX4 yX4_clearBuffer yX4_clearBuffer, Cond.code yX4_clearBuffer cX4_clearBuffer 2 (some .int), Cond.methodLink RL 115 yX5_clearBuffer, Cond.instanceMethod yX5_clearBuffer, Cond.selects RX5 yX5_clearBuffer yX5_clearBuffer, Cond.code yX5_clearBuffer cX5_clearBuffer 2 (some .int), Cond.methodLink RL 116 yX4_firstError]
def wsL_law0_r18 : List Cond := [Cond.instanceMethod yX4_firstError, Cond.selects RX4 yX4_firstError yX4_firstError, Cond.code yX4_firstError cX4_firstError 1 (some .int), Cond.methodLink RX4 144 yX0_findError, Cond.instanceMethod yX0_findError, Cond.selects RX0 yX0_findError yX0_findError, Cond.code yX0_findError cX0_findError 3 (some .int), Cond.methodLink RX0 19 yX0_stateBehind, Cond.static yX0_stateBehind, Cond.code yX0_stateBehind cX0_stateBehind 2 (some .int), Cond.methodLink RX0 23 yX0_kindOf, Cond.static yX0_kindOf, Cond.code yX0_kindOf cX0_kindOf 1 (some .int), Cond.methodLink RX0 27 yX0_stateBehindFirstDigit, Cond.static yX0_stateBehindFirstDigit, Cond.code yX0_stateBehindFirstDigit cX0_stateBehindFirstDigit 1 (some .int), Cond.methodLink RX0 30 yX0_isDigit, Cond.static yX0_isDigit, Cond.code yX0_isDigit cX0_isDigit 1 (some .boolean), Cond.methodLink RX0 34 yX0_stateBehindCoupling, Cond.static yX0_stateBehindCoupling, Cond.code yX0_stateBehindCoupling cX0_stateBehindCoupling 1 (some .int), Cond.methodLink RX0 37 yX0_couplingOf, Cond.static yX0_couplingOf]
def wsL_law0_r19 : List Cond := [Cond.code yX0_couplingOf cX0_couplingOf 1 (some .int), Cond.methodLink RL 119 yX5_firstError, Cond.instanceMethod yX5_firstError, Cond.selects RX5 yX5_firstError yX5_firstError, Cond.code yX5_firstError cX5_firstError 2 (some .int), Cond.fieldLink RX5 111 "HoseTestsModel" "isFault" "Z", Cond.fieldLink RX5 108 "HoseTestsModel" "at" "I", Cond.methodLink RX5 131 yX5_isText, Cond.instanceMethod yX5_isText, Cond.selects RX5 yX5_isText yX5_isText, Cond.code yX5_isText cX5_isText 2 (some .boolean), Cond.fieldLink RX5 122 "HoseTestsModel" "tolds" "I", Cond.methodLink RX5 128 yX5_isPart, Cond.instanceMethod yX5_isPart, Cond.selects RX5 yX5_isPart yX5_isPart, Cond.code yX5_isPart cX5_isPart 2 (some .boolean), Cond.methodLink RX5 118 yX5_stops, Cond.instanceMethod yX5_stops, Cond.selects RX5 yX5_stops yX5_stops, Cond.code yX5_stops cX5_stops 1 (some .boolean), Cond.methodLink RX5 125 yX5_isLength, Cond.instanceMethod yX5_isLength, Cond.selects RX5 yX5_isLength yX5_isLength, Cond.code yX5_isLength cX5_isLength 2 (some .boolean)]
def wsL_law0_r20 : List Cond := [Cond.methodLink RX5 115 yX5_isAt, Cond.instanceMethod yX5_isAt, Cond.selects RX5 yX5_isAt yX5_isAt, Cond.code yX5_isAt cX5_isAt 3 (some .boolean), Cond.methodLink RL 120 yL_buyAll, Cond.static yL_buyAll, Cond.codeWith yL_buyAll cL_buyAll 3 (some .int) [(0, 8, 11, 13)], Cond.methodLink RL 45 yX4_buyAll, Cond.instanceMethod yX4_buyAll, Cond.selects RX4 yX4_buyAll yX4_buyAll, Cond.code yX4_buyAll cX4_buyAll 2 (some .int), Cond.methodLink RX4 148 yX0_isComplete, Cond.instanceMethod yX0_isComplete, Cond.selects RX0 yX0_isComplete yX0_isComplete, Cond.code yX0_isComplete cX0_isComplete 3 (some .boolean), Cond.methodLink RX4 153 yX4_buyParts, Cond.instanceMethod yX4_buyParts, Cond.selects RX4 yX4_buyParts yX4_buyParts, Cond.code yX4_buyParts cX4_buyParts 6 (some .int), Cond.fieldLink RX4 284 "HoseTests$HoseText" "codes" "[I", Cond.methodLink RX4 303 yX0_kindOf, Cond.methodLink RX4 306 yX0_isDigit, Cond.methodLink RX4 309 yX0_couplingOf, Cond.methodLink RL 123 yX5_buyAll]
def wsL_law0_r21 : List Cond := [Cond.instanceMethod yX5_buyAll, Cond.selects RX5 yX5_buyAll yX5_buyAll, Cond.code yX5_buyAll cX5_buyAll 2 (some .int), Cond.methodLink RL 124 yL_undo, Cond.static yL_undo, Cond.codeWith yL_undo cL_undo 3 (some .int) [(0, 8, 11, 15)], Cond.methodLink RL 49 yX4_undo, Cond.instanceMethod yX4_undo, Cond.selects RX4 yX4_undo yX4_undo, Cond.code yX4_undo cX4_undo 2 (some .int), Cond.methodLink RL 126 yX5_undo, Cond.instanceMethod yX5_undo, Cond.selects RX5 yX5_undo yX5_undo, Cond.code yX5_undo cX5_undo 2 (some .int), Cond.methodLink RL 127 yL_hose, Cond.static yL_hose, Cond.codeWith yL_hose cL_hose 5 (some .int) [(0, 10, 13, 21), (0, 10, 17, 13)], Cond.methodLink RL 52 yX4_hose, Cond.instanceMethod yX4_hose, Cond.selects RX4 yX4_hose yX4_hose, Cond.code yX4_hose cX4_hose 3 (some .int), Cond.fieldLink RX4 164 "HoseTests$Station" "coupling" "[I", Cond.fieldLink RX4 167 "HoseTests$Station" "made" "[I", Cond.fieldLink RX4 170 "HoseTests$Station" "wear" "[I"]
def wsL_law0_r22 : List Cond := [Cond.fieldLink RX4 176 "HoseTests$Station" "lastTestDay" "[I", Cond.fieldLink RX4 179 "HoseTests$Station" "backDay" "[I", Cond.methodLink RX4 173 yX3_strengthAt, Cond.methodLink RX4 182 yX3_reasonOf, Cond.methodLink RL 129 yX5_hose, Cond.instanceMethod yX5_hose, Cond.selects RX5 yX5_hose yX5_hose, Cond.code yX5_hose cX5_hose 3 (some .int), Cond.methodLink RX5 134 yX5_ofHose, Cond.instanceMethod yX5_ofHose, Cond.selects RX5 yX5_ofHose yX5_ofHose, Cond.code yX5_ofHose cX5_ofHose 3 (some .int), Cond.methodLink RL 130 yL_truck, Cond.static yL_truck, Cond.codeWith yL_truck cL_truck 5 (some .int) [(0, 10, 13, 21), (0, 10, 17, 13)], Cond.methodLink RL 55 yX4_truck, Cond.instanceMethod yX4_truck, Cond.selects RX4 yX4_truck yX4_truck, Cond.code yX4_truck cX4_truck 4 (some .int), Cond.fieldLink RX4 190 "HoseTests$Station" "line" "LHoseTests$Line;", Cond.fieldLink RX4 194 "HoseTests$Line" "metres" "I", Cond.fieldLink RX4 205 "HoseTests$Line" "adaptersUsed" "I", Cond.fieldLink RX4 208 "HoseTests$Line" "mask" "I", Cond.methodLink RX4 187 yX3_layLine]
def wsL_law0_r23 : List Cond := [Cond.instanceMethod yX3_layLine, Cond.selects RX3 yX3_layLine yX3_layLine, Cond.code yX3_layLine cX3_layLine 4 (some .boolean), Cond.fieldLink RX3 148 "HoseTests$Line" "metres" "I", Cond.methodLink RX3 141 yX2_begin, Cond.instanceMethod yX2_begin, Cond.selects RX2 yX2_begin yX2_begin, Cond.code yX2_begin cX2_begin 1 none, Cond.fieldLink RX2 9 "HoseTests$Line" "metres" "I", Cond.fieldLink RX2 15 "HoseTests$Line" "adaptersUsed" "I", Cond.fieldLink RX2 18 "HoseTests$Line" "mask" "I", Cond.fieldLink RX2 21 "HoseTests$Line" "lastCoupling" "I", Cond.methodLink RX3 144 yX2_join, Cond.instanceMethod yX2_join, Cond.selects RX2 yX2_join yX2_join, Cond.code yX2_join cX2_join 5 none, Cond.methodLink RX4 199 yX3_hosesAt, Cond.instanceMethod yX3_hosesAt, Cond.selects RX3 yX3_hosesAt yX3_hosesAt, Cond.code yX3_hosesAt cX3_hosesAt 4 (some .int), Cond.methodLink RX4 202 yX3_readyHosesAt, Cond.instanceMethod yX3_readyHosesAt, Cond.selects RX3 yX3_readyHosesAt yX3_readyHosesAt, Cond.code yX3_readyHosesAt cX3_readyHosesAt 4 (some .int)]
def wsL_law0_r24 : List Cond := [Cond.methodLink RL 132 yX5_truck, Cond.instanceMethod yX5_truck, Cond.selects RX5 yX5_truck yX5_truck, Cond.code yX5_truck cX5_truck 3 (some .int), Cond.methodLink RX5 144 yX5_ofTruck, Cond.instanceMethod yX5_ofTruck, Cond.selects RX5 yX5_ofTruck yX5_ofTruck, Cond.code yX5_ofTruck cX5_ofTruck 4 (some .int), Cond.fieldLink RX5 53 "HoseTestsModel" "line" "I", Cond.fieldLink RX5 56 "HoseTestsModel" "adapters" "I", Cond.fieldLink RX5 59 "HoseTestsModel" "inLine" "I", Cond.methodLink RX5 137 yX5_isWhole, Cond.instanceMethod yX5_isWhole, Cond.selects RX5 yX5_isWhole yX5_isWhole, Cond.code yX5_isWhole cX5_isWhole 3 (some .boolean), Cond.methodLink RX5 66 yX5_lays, Cond.instanceMethod yX5_lays, Cond.selects RX5 yX5_lays yX5_lays, Cond.code yX5_lays cX5_lays 7 none, Cond.methodLink RX5 140 yX5_on, Cond.instanceMethod yX5_on, Cond.selects RX5 yX5_on yX5_on, Cond.code yX5_on cX5_on 5 (some .int), Cond.methodLink RL 133 yL_count]
def wsL_law0_r25 : List Cond := [Cond.static yL_count, Cond.codeWith yL_count cL_count 4 (some .int) [(0, 9, 12, 13)], Cond.methodLink RL 58 yX4_count, Cond.instanceMethod yX4_count, Cond.selects RX4 yX4_count yX4_count, Cond.code yX4_count cX4_count 2 (some .int), Cond.fieldLink RX4 213 "HoseTests$Station" "money" "I", Cond.fieldLink RX4 225 "HoseTests$Station" "tests" "I", Cond.fieldLink RX4 228 "HoseTests$Station" "bursts" "I", Cond.fieldLink RX4 231 "HoseTests$Station" "paid" "I", Cond.methodLink RX4 219 yX3_readyHoses, Cond.instanceMethod yX3_readyHoses, Cond.selects RX3 yX3_readyHoses yX3_readyHoses, Cond.code yX3_readyHoses cX3_readyHoses 3 (some .int), Cond.methodLink RX4 222 yX3_wholeTrucks, Cond.instanceMethod yX3_wholeTrucks, Cond.selects RX3 yX3_wholeTrucks yX3_wholeTrucks, Cond.code yX3_wholeTrucks cX3_wholeTrucks 3 (some .int), Cond.methodLink RX3 151 yX3_layLine, Cond.methodLink RL 135 yX5_count, Cond.instanceMethod yX5_count, Cond.selects RX5 yX5_count yX5_count, Cond.code yX5_count cX5_count 2 (some .int), Cond.methodLink RX5 150 yX5_counted]
def wsL_law0_r26 : List Cond := [Cond.instanceMethod yX5_counted, Cond.selects RX5 yX5_counted yX5_counted, Cond.code yX5_counted cX5_counted 2 (some .int), Cond.methodLink RX5 147 yX5_having, Cond.instanceMethod yX5_having, Cond.selects RX5 yX5_having yX5_having, Cond.code yX5_having cX5_having 4 (some .int), Cond.methodLink RL 136 yL_setting, Cond.static yL_setting, Cond.codeWith yL_setting cL_setting 4 (some .int) [(0, 9, 12, 21)], Cond.methodLink RL 61 yX4_setting, Cond.instanceMethod yX4_setting, Cond.selects RX4 yX4_setting yX4_setting, Cond.code yX4_setting cX4_setting 2 (some .int), Cond.methodLink RL 138 yX5_setting, Cond.instanceMethod yX5_setting, Cond.selects RX5 yX5_setting yX5_setting, Cond.code yX5_setting cX5_setting 2 (some .int), Cond.methodLink RL 139 yL_ifTested, Cond.static yL_ifTested, Cond.codeWith yL_ifTested cL_ifTested 5 (some .int) [(0, 10, 13, 21), (0, 10, 17, 13)], Cond.methodLink RL 64 yX4_ifTested, Cond.instanceMethod yX4_ifTested, Cond.selects RX4 yX4_ifTested yX4_ifTested]
def wsL_law0_r27 : List Cond := [Cond.code yX4_ifTested cX4_ifTested 3 (some .int), Cond.methodLink RX4 237 yX3_outcomeOf, Cond.methodLink RL 141 yX5_ifTested, Cond.instanceMethod yX5_ifTested, Cond.selects RX5 yX5_ifTested yX5_ifTested, Cond.code yX5_ifTested cX5_ifTested 3 (some .int), Cond.methodLink RX5 153 yX5_tried, Cond.instanceMethod yX5_tried, Cond.selects RX5 yX5_tried yX5_tried, Cond.code yX5_tried cX5_tried 3 (some .int), Cond.methodLink RL 142 yL_safe, Cond.static yL_safe, Cond.codeWith yL_safe cL_safe 4 (some .int) [(0, 9, 12, 21)], Cond.methodLink RL 67 yX4_safe, Cond.instanceMethod yX4_safe, Cond.selects RX4 yX4_safe yX4_safe, Cond.code yX4_safe cX4_safe 2 (some .int), Cond.methodLink RX4 240 yX3_greatestSafePressure, Cond.instanceMethod yX3_greatestSafePressure, Cond.selects RX3 yX3_greatestSafePressure yX3_greatestSafePressure, Cond.code yX3_greatestSafePressure cX3_greatestSafePressure 3 (some .int), Cond.methodLink RL 144 yX5_safe, Cond.instanceMethod yX5_safe, Cond.selects RX5 yX5_safe yX5_safe]
def wsL_law0_r28 : List Cond := [Cond.code yX5_safe cX5_safe 2 (some .int), Cond.methodLink RX5 156 yX5_greatest, Cond.instanceMethod yX5_greatest, Cond.selects RX5 yX5_greatest yX5_greatest, Cond.code yX5_greatest cX5_greatest 3 (some .int), Cond.methodLink RL 145 yX4_nextLapse, Cond.instanceMethod yX4_nextLapse, Cond.selects RX4 yX4_nextLapse yX4_nextLapse, Cond.code yX4_nextLapse cX4_nextLapse 1 (some .int), Cond.methodLink RX4 243 yX3_daysToFirstLapse, Cond.instanceMethod yX3_daysToFirstLapse, Cond.selects RX3 yX3_daysToFirstLapse yX3_daysToFirstLapse, Cond.code yX3_daysToFirstLapse cX3_daysToFirstLapse 5 (some .int), Cond.methodLink RL 148 yX5_nextLapse, Cond.instanceMethod yX5_nextLapse, Cond.selects RX5 yX5_nextLapse yX5_nextLapse, Cond.code yX5_nextLapse cX5_nextLapse 1 (some .int), Cond.methodLink RX5 159 yX5_lapses, Cond.instanceMethod yX5_lapses, Cond.selects RX5 yX5_lapses yX5_lapses, Cond.code yX5_lapses cX5_lapses 6 (some .int), Cond.methodLink RL 149 yL_helps, Cond.static yL_helps, Cond.codeWith yL_helps cL_helps 4 (some .int) [(0, 9, 12, 21)]]
def wsL_law0_r29 : List Cond := [Cond.methodLink RL 70 yX4_helps, Cond.instanceMethod yX4_helps, Cond.selects RX4 yX4_helps yX4_helps, Cond.code yX4_helps cX4_helps 2 (some .int), Cond.methodLink RX4 246 yX3_cheapestHelp, Cond.instanceMethod yX3_cheapestHelp, Cond.selects RX3 yX3_cheapestHelp yX3_cheapestHelp, Cond.code yX3_cheapestHelp cX3_cheapestHelp 6 (some .int), Cond.methodLink RL 151 yX5_helps, Cond.instanceMethod yX5_helps, Cond.selects RX5 yX5_helps yX5_helps, Cond.code yX5_helps cX5_helps 2 (some .int), Cond.methodLink RX5 163 yX5_cheapest, Cond.instanceMethod yX5_cheapest, Cond.selects RX5 yX5_cheapest yX5_cheapest, Cond.code yX5_cheapest cX5_cheapest 6 (some .int), Cond.methodLink RL 152 yX4_readyShare, Cond.instanceMethod yX4_readyShare, Cond.selects RX4 yX4_readyShare yX4_readyShare, Cond.code yX4_readyShare cX4_readyShare 2 (some .double), Cond.methodLink RL 156 yX5_readyShare, Cond.instanceMethod yX5_readyShare, Cond.selects RX5 yX5_readyShare yX5_readyShare, Cond.code yX5_readyShare cX5_readyShare 1 (some .double)]
def wsL_law0_r30 : List Cond := [Cond.methodLink RX5 166 yX5_share, Cond.instanceMethod yX5_share, Cond.selects RX5 yX5_share yX5_share, Cond.code yX5_share cX5_share 2 (some .double), Cond.methodLink RL 157 yX4_digest, Cond.instanceMethod yX4_digest, Cond.selects RX4 yX4_digest yX4_digest, Cond.code yX4_digest cX4_digest 5 (some .long), Cond.constantLong RX4 249 (3271), Cond.methodLink RX4 251 yX4_count, Cond.methodLink RX4 254 yX4_mixed, Cond.static yX4_mixed, Cond.code yX4_mixed cX4_mixed 4 (some .long), Cond.constantLong RX4 312 (31), Cond.methodLink RX4 258 yX4_hose, Cond.methodLink RX4 261 yX4_ifTested, Cond.methodLink RX4 264 yX4_safe, Cond.methodLink RX4 267 yX4_truck, Cond.methodLink RX4 270 yX4_helps, Cond.methodLink RX4 273 yX4_nextLapse, Cond.methodLink RX4 276 yX4_readyShare, Cond.methodLink RX4 280 yX4_bitsOfShare, Cond.static yX4_bitsOfShare, Cond.code yX4_bitsOfShare cX4_bitsOfShare 8 (some .long)]
def wsL_law0_r31 : List Cond := [Cond.constantLong RX4 314 (1023), Cond.constantDouble RX4 316 (4611686018427387904), Cond.constantDouble RX4 318 (4841369599423283200), Cond.methodLink RL 161 yX5_digest, Cond.instanceMethod yX5_digest, Cond.selects RX5 yX5_digest yX5_digest, Cond.code yX5_digest cX5_digest 5 (some .long), Cond.constantLong RX5 170 (3271), Cond.constantLong RX5 172 (31), Cond.methodLink RX5 174 yJxe99ae_doubleToLongBits_ccdee, Cond.static yJxe99ae_doubleToLongBits_ccdee, Cond.initialized RJxe99ae, Cond.code yJxe99ae_doubleToLongBits_ccdee cJxe99ae_doubleToLongBits_ccdee 2 (some .long), Cond.methodLink RJxe99ae 134 ⟨"java/lang/Double", "doubleToRawLongBits", "(D)J"⟩, Cond.native ⟨"java/lang/Double", "doubleToRawLongBits", "(D)J"⟩, Cond.static ⟨"java/lang/Double", "doubleToRawLongBits", "(D)J"⟩, Cond.initialized "java/lang/Double", Cond.constantLong RJxe99ae 137 (9221120237041090560), Cond.methodLink RJxe99ae 122 yJxe99ae_isNaN_b9ae7, Cond.static yJxe99ae_isNaN_b9ae7, Cond.code yJxe99ae_isNaN_b9ae7 cJxe99ae_isNaN_b9ae7 2 (some .boolean)]
def wsL_law0 : List Cond := (wsL_law0_r1 ++ (wsL_law0_r2 ++ (wsL_law0_r3 ++ (wsL_law0_r4 ++ (wsL_law0_r5 ++ (wsL_law0_r6 ++ (wsL_law0_r7 ++ (wsL_law0_r8 ++ (wsL_law0_r9 ++ (wsL_law0_r10 ++ (wsL_law0_r11 ++ (wsL_law0_r12 ++ (wsL_law0_r13 ++ (wsL_law0_r14 ++ (wsL_law0_r15 ++ (wsL_law0_r16 ++ (wsL_law0_r17 ++ (wsL_law0_r18 ++ (wsL_law0_r19 ++ (wsL_law0_r20 ++ (wsL_law0_r21 ++ (wsL_law0_r22 ++ (wsL_law0_r23 ++ (wsL_law0_r24 ++ (wsL_law0_r25 ++ (wsL_law0_r26 ++ (wsL_law0_r27 ++ (wsL_law0_r28 ++ (wsL_law0_r29 ++ (wsL_law0_r30 ++ wsL_law0_r31)))))))))))))))))))))))))))))) ++ wsX40 ++ wsX50 ++ wsX30 ++ wsX00 ++ wsX20 ++ ([] : List Cond)
def wsL_law : List Cond := wsL_law0 ++ (vx_atS RX4 42 "java/lang/IllegalArgumentException" ["java/lang/RuntimeException", "java/lang/Exception"]).filter goodWord ++ (vx_atS RX4 53 "java/lang/IllegalStateException" ["java/lang/RuntimeException", "java/lang/Exception"]).filter goodWord ++ (vx_atS RX4 291 "java/lang/IndexOutOfBoundsException" ["java/lang/RuntimeException", "java/lang/Exception"]).filter goodWord

set_option maxRecDepth 20000 in
theorem wsL_law0_r1_in : ∀ w ∈ wsL_law0_r1, w ∈ lw_tbl := fun w h => (goodIn_p wsL_law0_r1 [57, 60] (by decide +kernel) (by decide +kernel) w h).1
set_option maxRecDepth 20000 in
theorem wsL_law0_r2_in : ∀ w ∈ wsL_law0_r2, w ∈ lw_tbl := fun w h => (goodIn_p wsL_law0_r2 [65, 71] (by decide +kernel) (by decide +kernel) w h).1
set_option maxRecDepth 20000 in
theorem wsL_law0_r3_in : ∀ w ∈ wsL_law0_r3, w ∈ lw_tbl := fun w h => (goodIn_p wsL_law0_r3 [165, 696, 474] (by decide +kernel) (by decide +kernel) w h).1
set_option maxRecDepth 20000 in
theorem wsL_law0_r4_in : ∀ w ∈ wsL_law0_r4, w ∈ lw_tbl := fun w h => (goodIn_p wsL_law0_r4 [275, 479, 457, 499, 503] (by decide +kernel) (by decide +kernel) w h).1
set_option maxRecDepth 20000 in
theorem wsL_law0_r5_in : ∀ w ∈ wsL_law0_r5, w ∈ lw_tbl := fun w h => (goodIn_p wsL_law0_r5 [510, 454, 756, 759] (by decide +kernel) (by decide +kernel) w h).1
set_option maxRecDepth 20000 in
theorem wsL_law0_r6_in : ∀ w ∈ wsL_law0_r6, w ∈ lw_tbl := fun w h => (goodIn_p wsL_law0_r6 [752, 763, 766, 770, 774, 744] (by decide +kernel) (by decide +kernel) w h).1
set_option maxRecDepth 20000 in
theorem wsL_law0_r7_in : ∀ w ∈ wsL_law0_r7, w ∈ lw_tbl := fun w h => (goodIn_p wsL_law0_r7 [518, 371, 522, 241] (by decide +kernel) (by decide +kernel) w h).1
set_option maxRecDepth 20000 in
theorem wsL_law0_r8_in : ∀ w ∈ wsL_law0_r8, w ∈ lw_tbl := fun w h => (goodIn_p wsL_law0_r8 [245, 528, 778, 782, 786] (by decide +kernel) (by decide +kernel) w h).1
set_option maxRecDepth 20000 in
theorem wsL_law0_r9_in : ∀ w ∈ wsL_law0_r9, w ∈ lw_tbl := fun w h => (goodIn_p wsL_law0_r9 [790, 794, 536, 798, 544] (by decide +kernel) (by decide +kernel) w h).1
set_option maxRecDepth 20000 in
theorem wsL_law0_r10_in : ∀ w ∈ wsL_law0_r10, w ∈ lw_tbl := fun w h => (goodIn_p wsL_law0_r10 [233, 237, 248, 551, 802] (by decide +kernel) (by decide +kernel) w h).1
set_option maxRecDepth 20000 in
theorem wsL_law0_r11_in : ∀ w ∈ wsL_law0_r11, w ∈ lw_tbl := fun w h => (goodIn_p wsL_law0_r11 [806, 810, 813, 558, 406, 562] (by decide +kernel) (by decide +kernel) w h).1
set_option maxRecDepth 20000 in
theorem wsL_law0_r12_in : ∀ w ∈ wsL_law0_r12, w ∈ lw_tbl := fun w h => (goodIn_p wsL_law0_r12 [251, 412, 416, 419, 392, 395, 398] (by decide +kernel) (by decide +kernel) w h).1
set_option maxRecDepth 20000 in
theorem wsL_law0_r13_in : ∀ w ∈ wsL_law0_r13, w ∈ lw_tbl := fun w h => (goodIn_p wsL_law0_r13 [566, 817, 821, 825, 828] (by decide +kernel) (by decide +kernel) w h).1
set_option maxRecDepth 20000 in
theorem wsL_law0_r14_in : ∀ w ∈ wsL_law0_r14, w ∈ lw_tbl := fun w h => (goodIn_p wsL_law0_r14 [573, 435, 832, 835, 581, 584] (by decide +kernel) (by decide +kernel) w h).1
set_option maxRecDepth 20000 in
theorem wsL_law0_r15_in : ∀ w ∈ wsL_law0_r15, w ∈ lw_tbl := fun w h => (goodIn_p wsL_law0_r15 [588, 591, 839, 599, 603] (by decide +kernel) (by decide +kernel) w h).1
set_option maxRecDepth 20000 in
theorem wsL_law0_r16_in : ∀ w ∈ wsL_law0_r16, w ∈ lw_tbl := fun w h => (goodIn_p wsL_law0_r16 [607, 611, 615, 843, 847] (by decide +kernel) (by decide +kernel) w h).1
set_option maxRecDepth 20000 in
theorem wsL_law0_r17_in : ∀ w ∈ wsL_law0_r17, w ∈ lw_tbl := fun w h => (goodIn_p wsL_law0_r17 [623, 628, 633, 851, 195, 855] (by decide +kernel) (by decide +kernel) w h).1
set_option maxRecDepth 20000 in
theorem wsL_law0_r18_in : ∀ w ∈ wsL_law0_r18, w ∈ lw_tbl := fun w h => (goodIn_p wsL_law0_r18 [199, 203, 206, 209, 212, 215, 218] (by decide +kernel) (by decide +kernel) w h).1
set_option maxRecDepth 20000 in
theorem wsL_law0_r19_in : ∀ w ∈ wsL_law0_r19, w ∈ lw_tbl := fun w h => (goodIn_p wsL_law0_r19 [221, 859, 863, 867, 871, 875] (by decide +kernel) (by decide +kernel) w h).1
set_option maxRecDepth 20000 in
theorem wsL_law0_r20_in : ∀ w ∈ wsL_law0_r20, w ∈ lw_tbl := fun w h => (goodIn_p wsL_law0_r20 [879, 640, 644, 649] (by decide +kernel) (by decide +kernel) w h).1
set_option maxRecDepth 20000 in
theorem wsL_law0_r21_in : ∀ w ∈ wsL_law0_r21, w ∈ lw_tbl := fun w h => (goodIn_p wsL_law0_r21 [883, 659, 748, 367] (by decide +kernel) (by decide +kernel) w h).1
set_option maxRecDepth 20000 in
theorem wsL_law0_r22_in : ∀ w ∈ wsL_law0_r22, w ∈ lw_tbl := fun w h => (goodIn_p wsL_law0_r22 [887, 891, 432] (by decide +kernel) (by decide +kernel) w h).1
set_option maxRecDepth 20000 in
theorem wsL_law0_r23_in : ∀ w ∈ wsL_law0_r23, w ∈ lw_tbl := fun w h => (goodIn_p wsL_law0_r23 [351, 355, 359, 259, 442] (by decide +kernel) (by decide +kernel) w h).1
set_option maxRecDepth 20000 in
theorem wsL_law0_r24_in : ∀ w ∈ wsL_law0_r24, w ∈ lw_tbl := fun w h => (goodIn_p wsL_law0_r24 [895, 899, 903, 907, 911] (by decide +kernel) (by decide +kernel) w h).1
set_option maxRecDepth 20000 in
theorem wsL_law0_r25_in : ∀ w ∈ wsL_law0_r25, w ∈ lw_tbl := fun w h => (goodIn_p wsL_law0_r25 [272, 263, 347, 915] (by decide +kernel) (by decide +kernel) w h).1
set_option maxRecDepth 20000 in
theorem wsL_law0_r26_in : ∀ w ∈ wsL_law0_r26, w ∈ lw_tbl := fun w h => (goodIn_p wsL_law0_r26 [919, 923, 679, 927] (by decide +kernel) (by decide +kernel) w h).1
set_option maxRecDepth 20000 in
theorem wsL_law0_r27_in : ∀ w ∈ wsL_law0_r27, w ∈ lw_tbl := fun w h => (goodIn_p wsL_law0_r27 [403, 931, 935, 424, 428] (by decide +kernel) (by decide +kernel) w h).1
set_option maxRecDepth 20000 in
theorem wsL_law0_r28_in : ∀ w ∈ wsL_law0_r28, w ∈ lw_tbl := fun w h => (goodIn_p wsL_law0_r28 [939, 943, 225, 229, 947, 951] (by decide +kernel) (by decide +kernel) w h).1
set_option maxRecDepth 20000 in
theorem wsL_law0_r29_in : ∀ w ∈ wsL_law0_r29, w ∈ lw_tbl := fun w h => (goodIn_p wsL_law0_r29 [446, 450, 955, 959, 255, 963] (by decide +kernel) (by decide +kernel) w h).1
set_option maxRecDepth 20000 in
theorem wsL_law0_r30_in : ∀ w ∈ wsL_law0_r30, w ∈ lw_tbl := fun w h => (goodIn_p wsL_law0_r30 [967, 267, 362, 462] (by decide +kernel) (by decide +kernel) w h).1
set_option maxRecDepth 20000 in
theorem wsL_law0_r31_in : ∀ w ∈ wsL_law0_r31, w ∈ lw_tbl := fun w h => (goodIn_p wsL_law0_r31 [971, 976, 979] (by decide +kernel) (by decide +kernel) w h).1
theorem wsX40_in : ∀ w ∈ wsX40, w ∈ lw_tbl := by decide +kernel
theorem wsX50_in : ∀ w ∈ wsX50, w ∈ lw_tbl := by decide +kernel
theorem wsX30_in : ∀ w ∈ wsX30, w ∈ lw_tbl := by decide +kernel
theorem wsX00_in : ∀ w ∈ wsX00, w ∈ lw_tbl := by decide +kernel
theorem wsX20_in : ∀ w ∈ wsX20, w ∈ lw_tbl := by decide +kernel
theorem wsL_law_in0 : ∀ w ∈ wsL_law0, w ∈ lw_tbl := fun w h => (List.mem_append.mp h).elim (fun h => (List.mem_append.mp h).elim (fun h => (List.mem_append.mp h).elim (fun h => (List.mem_append.mp h).elim (fun h => (List.mem_append.mp h).elim (fun h => (List.mem_append.mp h).elim (fun h => (List.mem_append.mp h).elim (fun h => wsL_law0_r1_in w h) (fun h => (List.mem_append.mp h).elim (fun h => wsL_law0_r2_in w h) (fun h => (List.mem_append.mp h).elim (fun h => wsL_law0_r3_in w h) (fun h => (List.mem_append.mp h).elim (fun h => wsL_law0_r4_in w h) (fun h => (List.mem_append.mp h).elim (fun h => wsL_law0_r5_in w h) (fun h => (List.mem_append.mp h).elim (fun h => wsL_law0_r6_in w h) (fun h => (List.mem_append.mp h).elim (fun h => wsL_law0_r7_in w h) (fun h => (List.mem_append.mp h).elim (fun h => wsL_law0_r8_in w h) (fun h => (List.mem_append.mp h).elim (fun h => wsL_law0_r9_in w h) (fun h => (List.mem_append.mp h).elim (fun h => wsL_law0_r10_in w h) (fun h => (List.mem_append.mp h).elim (fun h => wsL_law0_r11_in w h) (fun h => (List.mem_append.mp h).elim (fun h => wsL_law0_r12_in w h) (fun h => (List.mem_append.mp h).elim (fun h => wsL_law0_r13_in w h) (fun h => (List.mem_append.mp h).elim (fun h => wsL_law0_r14_in w h) (fun h => (List.mem_append.mp h).elim (fun h => wsL_law0_r15_in w h) (fun h => (List.mem_append.mp h).elim (fun h => wsL_law0_r16_in w h) (fun h => (List.mem_append.mp h).elim (fun h => wsL_law0_r17_in w h) (fun h => (List.mem_append.mp h).elim (fun h => wsL_law0_r18_in w h) (fun h => (List.mem_append.mp h).elim (fun h => wsL_law0_r19_in w h) (fun h => (List.mem_append.mp h).elim (fun h => wsL_law0_r20_in w h) (fun h => (List.mem_append.mp h).elim (fun h => wsL_law0_r21_in w h) (fun h => (List.mem_append.mp h).elim (fun h => wsL_law0_r22_in w h) (fun h => (List.mem_append.mp h).elim (fun h => wsL_law0_r23_in w h) (fun h => (List.mem_append.mp h).elim (fun h => wsL_law0_r24_in w h) (fun h => (List.mem_append.mp h).elim (fun h => wsL_law0_r25_in w h) (fun h => (List.mem_append.mp h).elim (fun h => wsL_law0_r26_in w h) (fun h => (List.mem_append.mp h).elim (fun h => wsL_law0_r27_in w h) (fun h => (List.mem_append.mp h).elim (fun h => wsL_law0_r28_in w h) (fun h => (List.mem_append.mp h).elim (fun h => wsL_law0_r29_in w h) (fun h => (List.mem_append.mp h).elim (fun h => wsL_law0_r30_in w h) (fun h => wsL_law0_r31_in w h))))))))))))))))))))))))))))))) (fun h => wsX40_in w h)) (fun h => wsX50_in w h)) (fun h => wsX30_in w h)) (fun h => wsX00_in w h)) (fun h => wsX20_in w h)) (fun h => absurd h List.not_mem_nil)
theorem wsL_law_x0 : ∀ w ∈ (vx_atS RX4 42 "java/lang/IllegalArgumentException" ["java/lang/RuntimeException", "java/lang/Exception"]).filter goodWord, w ∈ lw_tbl := by decide +kernel
theorem wsL_law_x1 : ∀ w ∈ (vx_atS RX4 53 "java/lang/IllegalStateException" ["java/lang/RuntimeException", "java/lang/Exception"]).filter goodWord, w ∈ lw_tbl := by decide +kernel
theorem wsL_law_x2 : ∀ w ∈ (vx_atS RX4 291 "java/lang/IndexOutOfBoundsException" ["java/lang/RuntimeException", "java/lang/Exception"]).filter goodWord, w ∈ lw_tbl := by decide +kernel
theorem wsL_law_in : ∀ w ∈ wsL_law, w ∈ lw_tbl := fun w h => (List.mem_append.mp h).elim (fun h => (List.mem_append.mp h).elim (fun h => (List.mem_append.mp h).elim (fun h => wsL_law_in0 w h) (fun h => wsL_law_x0 w h)) (fun h => wsL_law_x1 w h)) (fun h => wsL_law_x2 w h)
theorem inlX0 : ∀ w ∈ wsX00, w ∈ wsL_law := fun _ h => List.mem_append_left _ (List.mem_append_left _ (List.mem_append_left _ (List.mem_append_left _ (List.mem_append_left _ (List.mem_append_right _ h)))))
theorem inX0 : ∀ w ∈ wsX00, w ∈ lw_tbl := fun w h => wsL_law_in w (inlX0 w h)
theorem inX1 : ∀ w ∈ wsX10, w ∈ lw_tbl := by decide +kernel
theorem inlX2 : ∀ w ∈ wsX20, w ∈ wsL_law := fun _ h => List.mem_append_left _ (List.mem_append_left _ (List.mem_append_left _ (List.mem_append_left _ (List.mem_append_right _ h))))
theorem inX2 : ∀ w ∈ wsX20, w ∈ lw_tbl := fun w h => wsL_law_in w (inlX2 w h)
theorem inlX3 : ∀ w ∈ wsX30, w ∈ wsL_law := fun _ h => List.mem_append_left _ (List.mem_append_left _ (List.mem_append_left _ (List.mem_append_left _ (List.mem_append_left _ (List.mem_append_left _ (List.mem_append_right _ h))))))
theorem inX3 : ∀ w ∈ wsX30, w ∈ lw_tbl := fun w h => wsL_law_in w (inlX3 w h)
theorem inlX4 : ∀ w ∈ wsX40, w ∈ wsL_law := fun _ h => List.mem_append_left _ (List.mem_append_left _ (List.mem_append_left _ (List.mem_append_left _ (List.mem_append_left _ (List.mem_append_left _ (List.mem_append_left _ (List.mem_append_left _ (List.mem_append_right _ h))))))))
theorem inX4 : ∀ w ∈ wsX40, w ∈ lw_tbl := fun w h => wsL_law_in w (inlX4 w h)
theorem inlX5 : ∀ w ∈ wsX50, w ∈ wsL_law := fun _ h => List.mem_append_left _ (List.mem_append_left _ (List.mem_append_left _ (List.mem_append_left _ (List.mem_append_left _ (List.mem_append_left _ (List.mem_append_left _ (List.mem_append_right _ h)))))))
theorem inX5 : ∀ w ∈ wsX50, w ∈ lw_tbl := fun w h => wsL_law_in w (inlX5 w h)
theorem inJxe99ae : ∀ w ∈ wsJxe99ae0, w ∈ lw_tbl := by decide +kernel
theorem inJ9 : ∀ w ∈ wsJ90, w ∈ lw_tbl := by decide +kernel
theorem inJ0 : ∀ w ∈ wsJ00, w ∈ lw_tbl := by decide +kernel
theorem inJ10 : ∀ w ∈ wsJ100, w ∈ lw_tbl := by decide +kernel
abbrev vwCl : List vw_C := [(RX0, TX0, 2), (RX2, TX2, 4), (RX3, TX3, 17), (RX4, TX4, 5), (RX5, TX5, 14)]

/-! ===== END printed: names ===== -/

