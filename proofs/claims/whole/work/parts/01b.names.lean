def RX0 : String := "HailPool$Grower"
def TX0 : u_T := fun k => match k with
  | 0 => ("HailPool$Grower", "coins", "I", false)
  | 1 => ("HailPool$Grower", "isInsured", "Z", false)
  | 2 => ("HailPool$Grower", "deductible", "I", false)
  | 3 => ("HailPool$Grower", "limit", "I", false)
  | 4 => ("HailPool$Grower", "rate", "I", false)
  | 5 => ("HailPool$Grower", "factor", "I", false)
  | 6 => ("HailPool$Grower", "claimed", "I", false)
  | _ => ("HailPool$Grower", "owed", "I", false)
def tyX0 : Nat → FieldType := fun k => match k with
  | 0 => .int
  | 1 => .boolean
  | 2 => .int
  | 3 => .int
  | 4 => .int
  | 5 => .int
  | 6 => .int
  | _ => .int
abbrev wsX00 : List Cond := u_ws RX0 TX0 8
theorem nmX0 : ∀ a, a < 8 → ∀ b, b < 8 → a ≠ b → (TX0 a).2.1 ≠ (TX0 b).2.1 := by decide +kernel
theorem tyX0_ok : ∀ k, k < 8 → parseFieldDescriptor (TX0 k).2.2.1 = some (tyX0 k) := by decide +kernel
abbrev cX0_init : ByteArray := prog_2_method_1_code
def yX0_init : MethodName := ⟨RX0, "<init>", "(I)V"⟩
abbrev cX0_claimFor : ByteArray := prog_2_method_2_code
def yX0_claimFor : MethodName := ⟨RX0, "claimFor", "(I)I"⟩
abbrev cX0_premiumFor : ByteArray := prog_2_method_3_code
def yX0_premiumFor : MethodName := ⟨RX0, "premiumFor", "(I)I"⟩
abbrev cX0_changeFactor : ByteArray := prog_2_method_4_code
def yX0_changeFactor : MethodName := ⟨RX0, "changeFactor", "()V"⟩
def RX1 : String := "HailPool$House"
def TX1 : u_T := fun k => match k with
  | 0 => ("HailPool$House", "owner", "I", true)
  | 1 => ("HailPool$House", "x", "I", true)
  | 2 => ("HailPool$House", "y", "I", true)
  | 3 => ("HailPool$House", "wide", "I", true)
  | 4 => ("HailPool$House", "deep", "I", true)
  | 5 => ("HailPool$House", "strength", "I", true)
  | 6 => ("HailPool$House", "value", "I", true)
  | _ => ("HailPool$House", "hasNet", "Z", false)
def tyX1 : Nat → FieldType := fun k => match k with
  | 0 => .int
  | 1 => .int
  | 2 => .int
  | 3 => .int
  | 4 => .int
  | 5 => .int
  | 6 => .int
  | _ => .boolean
abbrev wsX10 : List Cond := u_ws RX1 TX1 8
theorem nmX1 : ∀ a, a < 8 → ∀ b, b < 8 → a ≠ b → (TX1 a).2.1 ≠ (TX1 b).2.1 := by decide +kernel
theorem tyX1_ok : ∀ k, k < 8 → parseFieldDescriptor (TX1 k).2.2.1 = some (tyX1 k) := by decide +kernel
abbrev cX1_init : ByteArray := prog_3_method_1_code
def yX1_init : MethodName := ⟨RX1, "<init>", "(IIIIIII)V"⟩
abbrev cX1_paneCount : ByteArray := prog_3_method_2_code
def yX1_paneCount : MethodName := ⟨RX1, "paneCount", "()I"⟩
abbrev cX1_values : ByteArray := prog_3_method_3_code
def yX1_values : MethodName := ⟨RX1, "values", "()I"⟩
abbrev cX1_lostByCrack : ByteArray := prog_3_method_4_code
def yX1_lostByCrack : MethodName := ⟨RX1, "lostByCrack", "()I"⟩
abbrev cX1_overlaps : ByteArray := prog_3_method_5_code
def yX1_overlaps : MethodName := ⟨RX1, "overlaps", "(IIII)Z"⟩
def RX2 : String := "HailPool$Layer"
def TX2 : u_T := fun k => match k with
  | 0 => ("HailPool$Layer", "attachment", "I", true)
  | 1 => ("HailPool$Layer", "limit", "I", true)
  | 2 => ("HailPool$Layer", "share", "I", true)
  | 3 => ("HailPool$Layer", "left", "I", false)
  | _ => ("HailPool$Layer", "paid", "I", false)
def tyX2 : Nat → FieldType := fun k => match k with
  | 0 => .int
  | 1 => .int
  | 2 => .int
  | 3 => .int
  | _ => .int
abbrev wsX20 : List Cond := u_ws RX2 TX2 5
theorem nmX2 : ∀ a, a < 5 → ∀ b, b < 5 → a ≠ b → (TX2 a).2.1 ≠ (TX2 b).2.1 := by decide +kernel
theorem tyX2_ok : ∀ k, k < 5 → parseFieldDescriptor (TX2 k).2.2.1 = some (tyX2 k) := by decide +kernel
abbrev cX2_init : ByteArray := prog_4_method_1_code
def yX2_init : MethodName := ⟨RX2, "<init>", "(III)V"⟩
abbrev cX2_payFor : ByteArray := prog_4_method_2_code
def yX2_payFor : MethodName := ⟨RX2, "payFor", "(I)I"⟩
def RX3 : String := "HailPool$Storm"
def TX3 : u_T := fun k => match k with
  | 0 => ("HailPool$Storm", "x", "I", true)
  | 1 => ("HailPool$Storm", "y", "I", false)
  | 2 => ("HailPool$Storm", "dx", "I", true)
  | 3 => ("HailPool$Storm", "dy", "I", true)
  | 4 => ("HailPool$Storm", "radius", "I", true)
  | 5 => ("HailPool$Storm", "force", "I", true)
  | _ => ("HailPool$Storm", "steps", "I", true)
def tyX3 : Nat → FieldType := fun k => match k with
  | 0 => .int
  | 1 => .int
  | 2 => .int
  | 3 => .int
  | 4 => .int
  | 5 => .int
  | _ => .int
abbrev wsX30 : List Cond := u_ws RX3 TX3 7
theorem nmX3 : ∀ a, a < 7 → ∀ b, b < 7 → a ≠ b → (TX3 a).2.1 ≠ (TX3 b).2.1 := by decide +kernel
theorem tyX3_ok : ∀ k, k < 7 → parseFieldDescriptor (TX3 k).2.2.1 = some (tyX3 k) := by decide +kernel
abbrev cX3_init : ByteArray := prog_5_method_1_code
def yX3_init : MethodName := ⟨RX3, "<init>", "(IIIIIII)V"⟩
abbrev cX3_isAllowed : ByteArray := prog_5_method_2_code
def yX3_isAllowed : MethodName := ⟨RX3, "isAllowed", "()Z"⟩
def RX4 : String := "HailPool$Trial"
def TX4 : u_T := fun k => match k with
  | 0 => ("HailPool$Trial", "panes", "[I", true)
  | 1 => ("HailPool$Trial", "damages", "[I", true)
  | 2 => ("HailPool$Trial", "claims", "[I", true)
  | 3 => ("HailPool$Trial", "payments", "[I", true)
  | 4 => ("HailPool$Trial", "layerPayments", "[I", true)
  | _ => ("HailPool$Trial", "report", "[I", true)
def tyX4 : Nat → FieldType := fun k => match k with
  | 0 => .array .int
  | 1 => .array .int
  | 2 => .array .int
  | 3 => .array .int
  | 4 => .array .int
  | _ => .array .int
abbrev wsX40 : List Cond := u_ws RX4 TX4 6
theorem nmX4 : ∀ a, a < 6 → ∀ b, b < 6 → a ≠ b → (TX4 a).2.1 ≠ (TX4 b).2.1 := by decide +kernel
theorem tyX4_ok : ∀ k, k < 6 → parseFieldDescriptor (TX4 k).2.2.1 = some (tyX4 k) := by decide +kernel
abbrev cX4_init : ByteArray := prog_6_method_1_code
def yX4_init : MethodName := ⟨RX4, "<init>", "()V"⟩
abbrev cX4_begin : ByteArray := prog_6_method_2_code
def yX4_begin : MethodName := ⟨RX4, "begin", "([I)V"⟩
abbrev cX4_hitPane : ByteArray := prog_6_method_3_code
def yX4_hitPane : MethodName := ⟨RX4, "hitPane", "(LHailPool$House;II)V"⟩
abbrev cX4_addDamage : ByteArray := prog_6_method_4_code
def yX4_addDamage : MethodName := ⟨RX4, "addDamage", "(II)V"⟩
def RX5 : String := "HailPool"
def TX5 : u_T := fun k => match k with
  | 0 => ("HailPool", "growers", "Ljava/util/List;", true)
  | 1 => ("HailPool", "houses", "Ljava/util/List;", true)
  | 2 => ("HailPool", "layers", "Ljava/util/List;", true)
  | 3 => ("HailPool", "panes", "[I", true)
  | 4 => ("HailPool", "reports", "[[I", true)
  | 5 => ("HailPool", "trial", "LHailPool$Trial;", true)
  | 6 => ("HailPool", "poolCoins", "I", false)
  | 7 => ("HailPool", "stormCount", "I", false)
  | _ => ("HailPool", "yearCount", "I", false)
def tyX5 : Nat → FieldType := fun k => match k with
  | 0 => .object "java/util/List"
  | 1 => .object "java/util/List"
  | 2 => .object "java/util/List"
  | 3 => .array .int
  | 4 => .array (.array .int)
  | 5 => .object "HailPool$Trial"
  | 6 => .int
  | 7 => .int
  | _ => .int
abbrev wsX50 : List Cond := u_ws RX5 TX5 9
theorem nmX5 : ∀ a, a < 9 → ∀ b, b < 9 → a ≠ b → (TX5 a).2.1 ≠ (TX5 b).2.1 := by decide +kernel
theorem tyX5_ok : ∀ k, k < 9 → parseFieldDescriptor (TX5 k).2.2.1 = some (tyX5 k) := by decide +kernel
abbrev cX5_init : ByteArray := prog_1_method_1_code
def yX5_init : MethodName := ⟨RX5, "<init>", "()V"⟩
abbrev cX5_addGrower : ByteArray := prog_1_method_2_code
def yX5_addGrower : MethodName := ⟨RX5, "addGrower", "(I)I"⟩
abbrev cX5_build : ByteArray := prog_1_method_3_code
def yX5_build : MethodName := ⟨RX5, "build", "(IIIIIII)I"⟩
abbrev cX5_setNet : ByteArray := prog_1_method_4_code
def yX5_setNet : MethodName := ⟨RX5, "setNet", "(IZ)Z"⟩
abbrev cX5_insure : ByteArray := prog_1_method_5_code
def yX5_insure : MethodName := ⟨RX5, "insure", "(IIII)I"⟩
abbrev cX5_mend : ByteArray := prog_1_method_6_code
def yX5_mend : MethodName := ⟨RX5, "mend", "(I)I"⟩
abbrev cX5_grower : ByteArray := prog_1_method_7_code
def yX5_grower : MethodName := ⟨RX5, "grower", "(II)I"⟩
abbrev cX5_house : ByteArray := prog_1_method_8_code
def yX5_house : MethodName := ⟨RX5, "house", "(II)I"⟩
abbrev cX5_pane : ByteArray := prog_1_method_9_code
def yX5_pane : MethodName := ⟨RX5, "pane", "(II)I"⟩
abbrev cX5_fund : ByteArray := prog_1_method_10_code
def yX5_fund : MethodName := ⟨RX5, "fund", "(I)I"⟩
abbrev cX5_addLayer : ByteArray := prog_1_method_11_code
def yX5_addLayer : MethodName := ⟨RX5, "addLayer", "(III)I"⟩
abbrev cX5_layer : ByteArray := prog_1_method_12_code
def yX5_layer : MethodName := ⟨RX5, "layer", "(II)I"⟩
abbrev cX5_count : ByteArray := prog_1_method_13_code
def yX5_count : MethodName := ⟨RX5, "count", "(I)I"⟩
abbrev cX5_endYear : ByteArray := prog_1_method_14_code
def yX5_endYear : MethodName := ⟨RX5, "endYear", "()I"⟩
abbrev cX5_storm : ByteArray := prog_1_method_15_code
def yX5_storm : MethodName := ⟨RX5, "storm", "(IIIIIII)I"⟩
abbrev cX5_told : ByteArray := prog_1_method_16_code
def yX5_told : MethodName := ⟨RX5, "told", "(II)I"⟩
abbrev cX5_wouldBe : ByteArray := prog_1_method_17_code
def yX5_wouldBe : MethodName := ⟨RX5, "wouldBe", "(IIIIIIII)I"⟩
abbrev cX5_worst : ByteArray := prog_1_method_18_code
def yX5_worst : MethodName := ⟨RX5, "worst", "(II)I"⟩
abbrev cX5_advise : ByteArray := prog_1_method_19_code
def yX5_advise : MethodName := ⟨RX5, "advise", "(III)I"⟩
abbrev cX5_loss : ByteArray := prog_1_method_20_code
def yX5_loss : MethodName := ⟨RX5, "loss", "()D"⟩
abbrev cX5_digest : ByteArray := prog_1_method_21_code
def yX5_digest : MethodName := ⟨RX5, "digest", "()J"⟩
abbrev cX5_isIn : ByteArray := prog_1_method_22_code
def yX5_isIn : MethodName := ⟨RX5, "isIn", "(III)Z"⟩
abbrev cX5_checkGrower : ByteArray := prog_1_method_23_code
def yX5_checkGrower : MethodName := ⟨RX5, "checkGrower", "(I)V"⟩
abbrev cX5_checkHouse : ByteArray := prog_1_method_24_code
def yX5_checkHouse : MethodName := ⟨RX5, "checkHouse", "(I)V"⟩
abbrev cX5_checkWhat : ByteArray := prog_1_method_25_code
def yX5_checkWhat : MethodName := ⟨RX5, "checkWhat", "(II)V"⟩
abbrev cX5_checkStorm : ByteArray := prog_1_method_26_code
def yX5_checkStorm : MethodName := ⟨RX5, "checkStorm", "(LHailPool$Storm;)V"⟩
abbrev cX5_cellAt : ByteArray := prog_1_method_27_code
def yX5_cellAt : MethodName := ⟨RX5, "cellAt", "(II)I"⟩
abbrev cX5_isBuiltOn : ByteArray := prog_1_method_28_code
def yX5_isBuiltOn : MethodName := ⟨RX5, "isBuiltOn", "(IIII)Z"⟩
abbrev cX5_makeWhole : ByteArray := prog_1_method_29_code
def yX5_makeWhole : MethodName := ⟨RX5, "makeWhole", "(LHailPool$House;)V"⟩
abbrev cX5_panesOfHouse : ByteArray := prog_1_method_30_code
def yX5_panesOfHouse : MethodName := ⟨RX5, "panesOfHouse", "(LHailPool$House;I)I"⟩
abbrev cX5_lostOfHouse : ByteArray := prog_1_method_31_code
def yX5_lostOfHouse : MethodName := ⟨RX5, "lostOfHouse", "(LHailPool$House;)I"⟩
abbrev cX5_panesOfAll : ByteArray := prog_1_method_32_code
def yX5_panesOfAll : MethodName := ⟨RX5, "panesOfAll", "(I)I"⟩
abbrev cX5_lostOfAll : ByteArray := prog_1_method_33_code
def yX5_lostOfAll : MethodName := ⟨RX5, "lostOfAll", "()I"⟩
abbrev cX5_tellGrower : ByteArray := prog_1_method_34_code
def yX5_tellGrower : MethodName := ⟨RX5, "tellGrower", "(II)I"⟩
abbrev cX5_housesOfGrower : ByteArray := prog_1_method_35_code
def yX5_housesOfGrower : MethodName := ⟨RX5, "housesOfGrower", "(I)I"⟩
abbrev cX5_valuesOfGrower : ByteArray := prog_1_method_36_code
def yX5_valuesOfGrower : MethodName := ⟨RX5, "valuesOfGrower", "(I)I"⟩
abbrev cX5_lostOfGrower : ByteArray := prog_1_method_37_code
def yX5_lostOfGrower : MethodName := ⟨RX5, "lostOfGrower", "(I)I"⟩
abbrev cX5_tellHouse : ByteArray := prog_1_method_38_code
def yX5_tellHouse : MethodName := ⟨RX5, "tellHouse", "(LHailPool$House;I)I"⟩
abbrev cX5_tellLayer : ByteArray := prog_1_method_39_code
def yX5_tellLayer : MethodName := ⟨RX5, "tellLayer", "(LHailPool$Layer;I)I"⟩
abbrev cX5_tellCount : ByteArray := prog_1_method_40_code
def yX5_tellCount : MethodName := ⟨RX5, "tellCount", "(I)I"⟩
abbrev cX5_owedToAll : ByteArray := prog_1_method_41_code
def yX5_owedToAll : MethodName := ⟨RX5, "owedToAll", "()I"⟩
abbrev cX5_paneCountOfAll : ByteArray := prog_1_method_42_code
def yX5_paneCountOfAll : MethodName := ⟨RX5, "paneCountOfAll", "()I"⟩
abbrev cX5_digestHouse : ByteArray := prog_1_method_43_code
def yX5_digestHouse : MethodName := ⟨RX5, "digestHouse", "(JLHailPool$House;)J"⟩
abbrev cX5_takePremium : ByteArray := prog_1_method_44_code
def yX5_takePremium : MethodName := ⟨RX5, "takePremium", "(I)I"⟩
abbrev cX5_payDebts : ByteArray := prog_1_method_45_code
def yX5_payDebts : MethodName := ⟨RX5, "payDebts", "()V"⟩
abbrev cX5_beginYear : ByteArray := prog_1_method_46_code
def yX5_beginYear : MethodName := ⟨RX5, "beginYear", "()V"⟩
abbrev cX5_westStorm : ByteArray := prog_1_method_47_code
def yX5_westStorm : MethodName := ⟨RX5, "westStorm", "(III)LHailPool$Storm;"⟩
abbrev cX5_tryStorm : ByteArray := prog_1_method_48_code
def yX5_tryStorm : MethodName := ⟨RX5, "tryStorm", "(LHailPool$Storm;)V"⟩
abbrev cX5_damageOf : ByteArray := prog_1_method_49_code
def yX5_damageOf : MethodName := ⟨RX5, "damageOf", "(LHailPool$Storm;)I"⟩
abbrev cX5_damageWithNet : ByteArray := prog_1_method_50_code
def yX5_damageWithNet : MethodName := ⟨RX5, "damageWithNet", "(LHailPool$House;LHailPool$Storm;)I"⟩
abbrev cX5_blow : ByteArray := prog_1_method_51_code
def yX5_blow : MethodName := ⟨RX5, "blow", "(LHailPool$Storm;)V"⟩
abbrev cX5_hitHouse : ByteArray := prog_1_method_52_code
def yX5_hitHouse : MethodName := ⟨RX5, "hitHouse", "(LHailPool$House;LHailPool$Storm;II)V"⟩
abbrev cX5_claimDamages : ByteArray := prog_1_method_53_code
def yX5_claimDamages : MethodName := ⟨RX5, "claimDamages", "()V"⟩
abbrev cX5_callLayers : ByteArray := prog_1_method_54_code
def yX5_callLayers : MethodName := ⟨RX5, "callLayers", "()V"⟩
abbrev cX5_payClaims : ByteArray := prog_1_method_55_code
def yX5_payClaims : MethodName := ⟨RX5, "payClaims", "()V"⟩
abbrev cX5_takeTrialOver : ByteArray := prog_1_method_56_code
def yX5_takeTrialOver : MethodName := ⟨RX5, "takeTrialOver", "()V"⟩
def RX6 : String := "HailPoolModel$State"
def TX6 : u_T := fun k => match k with
  | 0 => ("HailPoolModel$State", "growers", "I", false)
  | 1 => ("HailPoolModel$State", "coins", "[I", true)
  | 2 => ("HailPoolModel$State", "policy", "[I", true)
  | 3 => ("HailPoolModel$State", "factor", "[I", true)
  | 4 => ("HailPoolModel$State", "claimed", "[I", true)
  | 5 => ("HailPoolModel$State", "owed", "[I", true)
  | 6 => ("HailPoolModel$State", "houses", "I", false)
  | 7 => ("HailPoolModel$State", "house", "[I", true)
  | 8 => ("HailPoolModel$State", "hasNet", "[Z", true)
  | 9 => ("HailPoolModel$State", "panes", "[I", true)
  | 10 => ("HailPoolModel$State", "pool", "I", false)
  | 11 => ("HailPoolModel$State", "layers", "I", false)
  | 12 => ("HailPoolModel$State", "layer", "[I", true)
  | 13 => ("HailPoolModel$State", "storms", "I", false)
  | 14 => ("HailPoolModel$State", "told", "[I", true)
  | 15 => ("HailPoolModel$State", "years", "I", false)
  | 16 => ("HailPoolModel$State", "latest", "[I", true)
  | 17 => ("HailPoolModel$State", "before", "[I", true)
  | _ => ("HailPoolModel$State", "claim", "[I", true)
def tyX6 : Nat → FieldType := fun k => match k with
  | 0 => .int
  | 1 => .array .int
  | 2 => .array .int
  | 3 => .array .int
  | 4 => .array .int
  | 5 => .array .int
  | 6 => .int
  | 7 => .array .int
  | 8 => .array .boolean
  | 9 => .array .int
  | 10 => .int
  | 11 => .int
  | 12 => .array .int
  | 13 => .int
  | 14 => .array .int
  | 15 => .int
  | 16 => .array .int
  | 17 => .array .int
  | _ => .array .int
abbrev wsX60 : List Cond := u_ws RX6 TX6 19
theorem nmX6 : ∀ a, a < 19 → ∀ b, b < 19 → a ≠ b → (TX6 a).2.1 ≠ (TX6 b).2.1 := by decide +kernel
theorem tyX6_ok : ∀ k, k < 19 → parseFieldDescriptor (TX6 k).2.2.1 = some (tyX6 k) := by decide +kernel
abbrev cX6_init : ByteArray := prog_9_method_1_code
def yX6_init : MethodName := ⟨RX6, "<init>", "()V"⟩
abbrev cX6_copy : ByteArray := prog_9_method_2_code
def yX6_copy : MethodName := ⟨RX6, "copy", "([I[I)V"⟩
abbrev cX6_become : ByteArray := prog_9_method_3_code
def yX6_become : MethodName := ⟨RX6, "become", "(LHailPoolModel$State;)V"⟩
abbrev cX6_size : ByteArray := prog_9_method_4_code
def yX6_size : MethodName := ⟨RX6, "size", "(I)I"⟩
abbrev cX6_valueOf : ByteArray := prog_9_method_5_code
def yX6_valueOf : MethodName := ⟨RX6, "valueOf", "(II)I"⟩
abbrev cX6_lostOf : ByteArray := prog_9_method_6_code
def yX6_lostOf : MethodName := ⟨RX6, "lostOf", "(I)I"⟩
abbrev cX6_lostBy : ByteArray := prog_9_method_7_code
def yX6_lostBy : MethodName := ⟨RX6, "lostBy", "(I)I"⟩
abbrev cX6_valuesOf : ByteArray := prog_9_method_8_code
def yX6_valuesOf : MethodName := ⟨RX6, "valuesOf", "(I)I"⟩
abbrev cX6_inState : ByteArray := prog_9_method_9_code
def yX6_inState : MethodName := ⟨RX6, "inState", "(II)I"⟩
abbrev cX6_storm : ByteArray := prog_9_method_10_code
def yX6_storm : MethodName := ⟨RX6, "storm", "(IIIIIII)V"⟩
abbrev cX6_pay : ByteArray := prog_9_method_11_code
def yX6_pay : MethodName := ⟨RX6, "pay", "(II)I"⟩
abbrev cX6_hail : ByteArray := prog_9_method_12_code
def yX6_hail : MethodName := ⟨RX6, "hail", "(IIIII)V"⟩
abbrev cX6_endYear : ByteArray := prog_9_method_13_code
def yX6_endYear : MethodName := ⟨RX6, "endYear", "()I"⟩
def RX7 : String := "HailPoolModel"
def TX7 : u_T := fun k => match k with
  | 0 => ("HailPoolModel", "thrown", "I", false)
  | 1 => ("HailPoolModel", "s", "LHailPoolModel$State;", true)
  | _ => ("HailPoolModel", "ahead", "LHailPoolModel$State;", true)
def tyX7 : Nat → FieldType := fun k => match k with
  | 0 => .int
  | 1 => .object "HailPoolModel$State"
  | _ => .object "HailPoolModel$State"
abbrev wsX70 : List Cond := u_ws RX7 TX7 3
theorem nmX7 : ∀ a, a < 3 → ∀ b, b < 3 → a ≠ b → (TX7 a).2.1 ≠ (TX7 b).2.1 := by decide +kernel
theorem tyX7_ok : ∀ k, k < 3 → parseFieldDescriptor (TX7 k).2.2.1 = some (tyX7 k) := by decide +kernel
abbrev cX7_init : ByteArray := prog_8_method_1_code
def yX7_init : MethodName := ⟨RX7, "<init>", "()V"⟩
abbrev cX7_thrown : ByteArray := prog_8_method_2_code
def yX7_thrown : MethodName := ⟨RX7, "thrown", "()I"⟩
abbrev cX7_no : ByteArray := prog_8_method_3_code
def yX7_no : MethodName := ⟨RX7, "no", "(I)I"⟩
abbrev cX7_isIn : ByteArray := prog_8_method_4_code
def yX7_isIn : MethodName := ⟨RX7, "isIn", "(III)Z"⟩
abbrev cX7_isGrower : ByteArray := prog_8_method_5_code
def yX7_isGrower : MethodName := ⟨RX7, "isGrower", "(I)Z"⟩
abbrev cX7_isHouse : ByteArray := prog_8_method_6_code
def yX7_isHouse : MethodName := ⟨RX7, "isHouse", "(I)Z"⟩
abbrev cX7_addGrower : ByteArray := prog_8_method_7_code
def yX7_addGrower : MethodName := ⟨RX7, "addGrower", "(I)I"⟩
abbrev cX7_at : ByteArray := prog_8_method_8_code
def yX7_at : MethodName := ⟨RX7, "at", "(II)I"⟩
abbrev cX7_build : ByteArray := prog_8_method_9_code
def yX7_build : MethodName := ⟨RX7, "build", "(IIIIIII)I"⟩
abbrev cX7_setNet : ByteArray := prog_8_method_10_code
def yX7_setNet : MethodName := ⟨RX7, "setNet", "(IZ)Z"⟩
abbrev cX7_insure : ByteArray := prog_8_method_11_code
def yX7_insure : MethodName := ⟨RX7, "insure", "(IIII)I"⟩
abbrev cX7_mend : ByteArray := prog_8_method_12_code
def yX7_mend : MethodName := ⟨RX7, "mend", "(I)I"⟩
abbrev cX7_growerTold : ByteArray := prog_8_method_13_code
def yX7_growerTold : MethodName := ⟨RX7, "growerTold", "(II)I"⟩
abbrev cX7_grower : ByteArray := prog_8_method_14_code
def yX7_grower : MethodName := ⟨RX7, "grower", "(II)I"⟩
abbrev cX7_houseTold : ByteArray := prog_8_method_15_code
def yX7_houseTold : MethodName := ⟨RX7, "houseTold", "(II)I"⟩
abbrev cX7_house : ByteArray := prog_8_method_16_code
def yX7_house : MethodName := ⟨RX7, "house", "(II)I"⟩
abbrev cX7_pane : ByteArray := prog_8_method_17_code
def yX7_pane : MethodName := ⟨RX7, "pane", "(II)I"⟩
abbrev cX7_fund : ByteArray := prog_8_method_18_code
def yX7_fund : MethodName := ⟨RX7, "fund", "(I)I"⟩
abbrev cX7_addLayer : ByteArray := prog_8_method_19_code
def yX7_addLayer : MethodName := ⟨RX7, "addLayer", "(III)I"⟩
abbrev cX7_layer : ByteArray := prog_8_method_20_code
def yX7_layer : MethodName := ⟨RX7, "layer", "(II)I"⟩
abbrev cX7_counted : ByteArray := prog_8_method_21_code
def yX7_counted : MethodName := ⟨RX7, "counted", "(I)I"⟩
abbrev cX7_count : ByteArray := prog_8_method_22_code
def yX7_count : MethodName := ⟨RX7, "count", "(I)I"⟩
abbrev cX7_endYear : ByteArray := prog_8_method_23_code
def yX7_endYear : MethodName := ⟨RX7, "endYear", "()I"⟩
abbrev cX7_isStorm : ByteArray := prog_8_method_24_code
def yX7_isStorm : MethodName := ⟨RX7, "isStorm", "(IIIIIII)Z"⟩
abbrev cX7_storm : ByteArray := prog_8_method_25_code
def yX7_storm : MethodName := ⟨RX7, "storm", "(IIIIIII)I"⟩
abbrev cX7_told : ByteArray := prog_8_method_26_code
def yX7_told : MethodName := ⟨RX7, "told", "(II)I"⟩
abbrev cX7_wouldBe : ByteArray := prog_8_method_27_code
def yX7_wouldBe : MethodName := ⟨RX7, "wouldBe", "(IIIIIIII)I"⟩
abbrev cX7_worst : ByteArray := prog_8_method_28_code
def yX7_worst : MethodName := ⟨RX7, "worst", "(II)I"⟩
abbrev cX7_damage : ByteArray := prog_8_method_29_code
def yX7_damage : MethodName := ⟨RX7, "damage", "(IIII)I"⟩
abbrev cX7_advise : ByteArray := prog_8_method_30_code
def yX7_advise : MethodName := ⟨RX7, "advise", "(III)I"⟩
abbrev cX7_loss : ByteArray := prog_8_method_31_code
def yX7_loss : MethodName := ⟨RX7, "loss", "()D"⟩
abbrev cX7_digest : ByteArray := prog_8_method_32_code
def yX7_digest : MethodName := ⟨RX7, "digest", "()J"⟩
def RJx145de : String := "java/io/Serializable"
def TJx145de : u_T := fun k => match k with
  | _ => ("", "", "", false)
def tyJx145de : Nat → FieldType := fun k => match k with
  | _ => .int
abbrev wsJx145de0 : List Cond := u_ws RJx145de TJx145de 0
theorem nmJx145de : ∀ a, a < 0 → ∀ b, b < 0 → a ≠ b → (TJx145de a).2.1 ≠ (TJx145de b).2.1 := by decide +kernel
theorem tyJx145de_ok : ∀ k, k < 0 → parseFieldDescriptor (TJx145de k).2.2.1 = some (tyJx145de k) := by decide +kernel
def RJx8e188 : String := "java/lang/Cloneable"
def TJx8e188 : u_T := fun k => match k with
  | _ => ("", "", "", false)
def tyJx8e188 : Nat → FieldType := fun k => match k with
  | _ => .int
abbrev wsJx8e1880 : List Cond := u_ws RJx8e188 TJx8e188 0
theorem nmJx8e188 : ∀ a, a < 0 → ∀ b, b < 0 → a ≠ b → (TJx8e188 a).2.1 ≠ (TJx8e188 b).2.1 := by decide +kernel
theorem tyJx8e188_ok : ∀ k, k < 0 → parseFieldDescriptor (TJx8e188 k).2.2.1 = some (tyJx8e188 k) := by decide +kernel
def RJxab1ab : String := "java/lang/Iterable"
def TJxab1ab : u_T := fun k => match k with
  | _ => ("", "", "", false)
def tyJxab1ab : Nat → FieldType := fun k => match k with
  | _ => .int
abbrev wsJxab1ab0 : List Cond := u_ws RJxab1ab TJxab1ab 0
theorem nmJxab1ab : ∀ a, a < 0 → ∀ b, b < 0 → a ≠ b → (TJxab1ab a).2.1 ≠ (TJxab1ab b).2.1 := by decide +kernel
theorem tyJxab1ab_ok : ∀ k, k < 0 → parseFieldDescriptor (TJxab1ab k).2.2.1 = some (tyJxab1ab k) := by decide +kernel
def RJ9 : String := "java/lang/Math"
def TJ9 : u_T := fun k => match k with
  | _ => ("", "", "", false)
def tyJ9 : Nat → FieldType := fun k => match k with
  | _ => .int
abbrev wsJ90 : List Cond := u_ws RJ9 TJ9 0
theorem nmJ9 : ∀ a, a < 0 → ∀ b, b < 0 → a ≠ b → (TJ9 a).2.1 ≠ (TJ9 b).2.1 := by decide +kernel
theorem tyJ9_ok : ∀ k, k < 0 → parseFieldDescriptor (TJ9 k).2.2.1 = some (tyJ9 k) := by decide +kernel
abbrev cJ9_abs_0f7a4 : ByteArray := prog_17_method_59_code
def yJ9_abs_0f7a4 : MethodName := ⟨RJ9, "abs", "(I)I"⟩
abbrev cJ9_max_7cf53 : ByteArray := prog_17_method_65_code
def yJ9_max_7cf53 : MethodName := ⟨RJ9, "max", "(II)I"⟩
abbrev cJ9_min_7cf53 : ByteArray := prog_17_method_69_code
def yJ9_min_7cf53 : MethodName := ⟨RJ9, "min", "(II)I"⟩
def RJ0 : String := "java/lang/String"
def TJ0 : u_T := fun k => match k with
  | _ => ("", "", "", false)
def tyJ0 : Nat → FieldType := fun k => match k with
  | _ => .int
abbrev wsJ00 : List Cond := u_ws RJ0 TJ0 0
theorem nmJ0 : ∀ a, a < 0 → ∀ b, b < 0 → a ≠ b → (TJ0 a).2.1 ≠ (TJ0 b).2.1 := by decide +kernel
theorem tyJ0_ok : ∀ k, k < 0 → parseFieldDescriptor (TJ0 k).2.2.1 = some (tyJ0 k) := by decide +kernel
def RJ10 : String := "java/lang/System"
def TJ10 : u_T := fun k => match k with
  | _ => ("", "", "", false)
def tyJ10 : Nat → FieldType := fun k => match k with
  | _ => .int
abbrev wsJ100 : List Cond := u_ws RJ10 TJ10 0
theorem nmJ10 : ∀ a, a < 0 → ∀ b, b < 0 → a ≠ b → (TJ10 a).2.1 ≠ (TJ10 b).2.1 := by decide +kernel
theorem tyJ10_ok : ∀ k, k < 0 → parseFieldDescriptor (TJ10 k).2.2.1 = some (tyJ10 k) := by decide +kernel
def RJxa1e45 : String := "java/util/AbstractCollection"
def TJxa1e45 : u_T := fun k => match k with
  | _ => ("", "", "", false)
def tyJxa1e45 : Nat → FieldType := fun k => match k with
  | _ => .int
abbrev wsJxa1e450 : List Cond := u_ws RJxa1e45 TJxa1e45 0
theorem nmJxa1e45 : ∀ a, a < 0 → ∀ b, b < 0 → a ≠ b → (TJxa1e45 a).2.1 ≠ (TJxa1e45 b).2.1 := by decide +kernel
theorem tyJxa1e45_ok : ∀ k, k < 0 → parseFieldDescriptor (TJxa1e45 k).2.2.1 = some (tyJxa1e45 k) := by decide +kernel
abbrev cJxa1e45_init_da8c8 : ByteArray := prog_22_method_1_code
def yJxa1e45_init_da8c8 : MethodName := ⟨RJxa1e45, "<init>", "()V"⟩
def RJxc12de : String := "java/util/AbstractList"
def TJxc12de : u_T := fun k => match k with
  | _ => ("", "", "", false)
def tyJxc12de : Nat → FieldType := fun k => match k with
  | _ => .int
abbrev wsJxc12de0 : List Cond := u_ws RJxc12de TJxc12de 0
theorem nmJxc12de : ∀ a, a < 0 → ∀ b, b < 0 → a ≠ b → (TJxc12de a).2.1 ≠ (TJxc12de b).2.1 := by decide +kernel
theorem tyJxc12de_ok : ∀ k, k < 0 → parseFieldDescriptor (TJxc12de k).2.2.1 = some (tyJxc12de k) := by decide +kernel
abbrev cJxc12de_init_da8c8 : ByteArray := prog_23_method_1_code
def yJxc12de_init_da8c8 : MethodName := ⟨RJxc12de, "<init>", "()V"⟩
def RJx4a65c : String := "java/util/ArrayList"
def TJx4a65c : u_T := fun k => match k with
  | 0 => ("java/util/AbstractList", "modCount", "I", false)
  | 1 => ("java/util/ArrayList", "elementData", "[Ljava/lang/Object;", false)
  | _ => ("java/util/ArrayList", "size", "I", false)
def tyJx4a65c : Nat → FieldType := fun k => match k with
  | 0 => .int
  | 1 => .array (.object "java/lang/Object")
  | _ => .int
abbrev wsJx4a65c0 : List Cond := u_ws RJx4a65c TJx4a65c 3
theorem nmJx4a65c : ∀ a, a < 3 → ∀ b, b < 3 → a ≠ b → (TJx4a65c a).2.1 ≠ (TJx4a65c b).2.1 := by decide +kernel
theorem tyJx4a65c_ok : ∀ k, k < 3 → parseFieldDescriptor (TJx4a65c k).2.2.1 = some (tyJx4a65c k) := by decide +kernel
abbrev cJx4a65c_init_da8c8 : ByteArray := prog_24_method_2_code
def yJx4a65c_init_da8c8 : MethodName := ⟨RJx4a65c, "<init>", "()V"⟩
abbrev cJx4a65c_grow_92f84 : ByteArray := prog_24_method_6_code
def yJx4a65c_grow_92f84 : MethodName := ⟨RJx4a65c, "grow", "(I)[Ljava/lang/Object;"⟩
abbrev cJx4a65c_grow_d5877 : ByteArray := prog_24_method_7_code
def yJx4a65c_grow_d5877 : MethodName := ⟨RJx4a65c, "grow", "()[Ljava/lang/Object;"⟩
abbrev cJx4a65c_size_8abf5 : ByteArray := prog_24_method_8_code
def yJx4a65c_size_8abf5 : MethodName := ⟨RJx4a65c, "size", "()I"⟩
abbrev cJx4a65c_elementData_915e3 : ByteArray := prog_24_method_18_code
def yJx4a65c_elementData_915e3 : MethodName := ⟨RJx4a65c, "elementData", "(I)Ljava/lang/Object;"⟩
abbrev cJx4a65c_get_915e3 : ByteArray := prog_24_method_20_code
def yJx4a65c_get_915e3 : MethodName := ⟨RJx4a65c, "get", "(I)Ljava/lang/Object;"⟩
abbrev cJx4a65c_add_72be8 : ByteArray := prog_24_method_24_code
def yJx4a65c_add_72be8 : MethodName := ⟨RJx4a65c, "add", "(Ljava/lang/Object;[Ljava/lang/Object;I)V"⟩
abbrev cJx4a65c_add_9ea2d : ByteArray := prog_24_method_25_code
def yJx4a65c_add_9ea2d : MethodName := ⟨RJx4a65c, "add", "(Ljava/lang/Object;)Z"⟩
def RJ7 : String := "java/util/Arrays"
def TJ7 : u_T := fun k => match k with
  | _ => ("", "", "", false)
def tyJ7 : Nat → FieldType := fun k => match k with
  | _ => .int
abbrev wsJ70 : List Cond := u_ws RJ7 TJ7 0
theorem nmJ7 : ∀ a, a < 0 → ∀ b, b < 0 → a ≠ b → (TJ7 a).2.1 ≠ (TJ7 b).2.1 := by decide +kernel
theorem tyJ7_ok : ∀ k, k < 0 → parseFieldDescriptor (TJ7 k).2.2.1 = some (tyJ7 k) := by decide +kernel
abbrev cJ7_copyOf_1904c : ByteArray := prog_25_method_119_code
def yJ7_copyOf_1904c : MethodName := ⟨RJ7, "copyOf", "([Ljava/lang/Object;I)[Ljava/lang/Object;"⟩
abbrev cJ7_copyOf_6403c : ByteArray := prog_25_method_120_code
def yJ7_copyOf_6403c : MethodName := ⟨RJ7, "copyOf", "([Ljava/lang/Object;ILjava/lang/Class;)[Ljava/lang/Object;"⟩
def RJx5ef63 : String := "java/util/Collection"
def TJx5ef63 : u_T := fun k => match k with
  | _ => ("", "", "", false)
def tyJx5ef63 : Nat → FieldType := fun k => match k with
  | _ => .int
abbrev wsJx5ef630 : List Cond := u_ws RJx5ef63 TJx5ef63 0
theorem nmJx5ef63 : ∀ a, a < 0 → ∀ b, b < 0 → a ≠ b → (TJx5ef63 a).2.1 ≠ (TJx5ef63 b).2.1 := by decide +kernel
theorem tyJx5ef63_ok : ∀ k, k < 0 → parseFieldDescriptor (TJx5ef63 k).2.2.1 = some (tyJx5ef63 k) := by decide +kernel
def RJxbd725 : String := "java/util/List"
def TJxbd725 : u_T := fun k => match k with
  | _ => ("", "", "", false)
def tyJxbd725 : Nat → FieldType := fun k => match k with
  | _ => .int
abbrev wsJxbd7250 : List Cond := u_ws RJxbd725 TJxbd725 0
theorem nmJxbd725 : ∀ a, a < 0 → ∀ b, b < 0 → a ≠ b → (TJxbd725 a).2.1 ≠ (TJxbd725 b).2.1 := by decide +kernel
theorem tyJxbd725_ok : ∀ k, k < 0 → parseFieldDescriptor (TJxbd725 k).2.2.1 = some (tyJxbd725 k) := by decide +kernel
def RJ15 : String := "java/util/Objects"
def TJ15 : u_T := fun k => match k with
  | _ => ("", "", "", false)
def tyJ15 : Nat → FieldType := fun k => match k with
  | _ => .int
abbrev wsJ150 : List Cond := u_ws RJ15 TJ15 0
theorem nmJ15 : ∀ a, a < 0 → ∀ b, b < 0 → a ≠ b → (TJ15 a).2.1 ≠ (TJ15 b).2.1 := by decide +kernel
theorem tyJ15_ok : ∀ k, k < 0 → parseFieldDescriptor (TJ15 k).2.2.1 = some (tyJ15 k) := by decide +kernel
abbrev cJ15_checkIndex_7cf53 : ByteArray := prog_28_method_17_code
def yJ15_checkIndex_7cf53 : MethodName := ⟨RJ15, "checkIndex", "(II)I"⟩
def RJxf0a74 : String := "java/util/RandomAccess"
def TJxf0a74 : u_T := fun k => match k with
  | _ => ("", "", "", false)
def tyJxf0a74 : Nat → FieldType := fun k => match k with
  | _ => .int
abbrev wsJxf0a740 : List Cond := u_ws RJxf0a74 TJxf0a74 0
theorem nmJxf0a74 : ∀ a, a < 0 → ∀ b, b < 0 → a ≠ b → (TJxf0a74 a).2.1 ≠ (TJxf0a74 b).2.1 := by decide +kernel
theorem tyJxf0a74_ok : ∀ k, k < 0 → parseFieldDescriptor (TJxf0a74 k).2.2.1 = some (tyJxf0a74 k) := by decide +kernel
def RJxa66e6 : String := "java/util/SequencedCollection"
def TJxa66e6 : u_T := fun k => match k with
  | _ => ("", "", "", false)
def tyJxa66e6 : Nat → FieldType := fun k => match k with
  | _ => .int
abbrev wsJxa66e60 : List Cond := u_ws RJxa66e6 TJxa66e6 0
theorem nmJxa66e6 : ∀ a, a < 0 → ∀ b, b < 0 → a ≠ b → (TJxa66e6 a).2.1 ≠ (TJxa66e6 b).2.1 := by decide +kernel
theorem tyJxa66e6_ok : ∀ k, k < 0 → parseFieldDescriptor (TJxa66e6 k).2.2.1 = some (tyJxa66e6 k) := by decide +kernel
def RJ8 : String := "jdk/internal/util/ArraysSupport"
def TJ8 : u_T := fun k => match k with
  | _ => ("", "", "", false)
def tyJ8 : Nat → FieldType := fun k => match k with
  | _ => .int
abbrev wsJ80 : List Cond := u_ws RJ8 TJ8 0
theorem nmJ8 : ∀ a, a < 0 → ∀ b, b < 0 → a ≠ b → (TJ8 a).2.1 ≠ (TJ8 b).2.1 := by decide +kernel
theorem tyJ8_ok : ∀ k, k < 0 → parseFieldDescriptor (TJ8 k).2.2.1 = some (tyJ8 k) := by decide +kernel
abbrev cJ8_newLength_cabcc : ByteArray := prog_31_method_27_code
def yJ8_newLength_cabcc : MethodName := ⟨RJ8, "newLength", "(III)I"⟩
abbrev cJ8_hugeLength_7cf53 : ByteArray := prog_31_method_28_code
def yJ8_hugeLength_7cf53 : MethodName := ⟨RJ8, "hugeLength", "(II)I"⟩
def RJ3 : String := "jdk/internal/util/Preconditions"
def TJ3 : u_T := fun k => match k with
  | _ => ("", "", "", false)
def tyJ3 : Nat → FieldType := fun k => match k with
  | _ => .int
abbrev wsJ30 : List Cond := u_ws RJ3 TJ3 0
theorem nmJ3 : ∀ a, a < 0 → ∀ b, b < 0 → a ≠ b → (TJ3 a).2.1 ≠ (TJ3 b).2.1 := by decide +kernel
theorem tyJ3_ok : ∀ k, k < 0 → parseFieldDescriptor (TJ3 k).2.2.1 = some (tyJ3 k) := by decide +kernel
abbrev cJ3_checkIndex_8e157 : ByteArray := prog_32_method_11_code
def yJ3_checkIndex_8e157 : MethodName := ⟨RJ3, "checkIndex", "(IILjava/util/function/BiFunction;)I"⟩
def RL : String := "HailPoolLaw"
abbrev cL_addGrower : ByteArray := method_3_code
def yL_addGrower : MethodName := ⟨RL, "addGrower", "(LHailPool;I[J)I"⟩
abbrev cL_build : ByteArray := method_4_code
def yL_build : MethodName := ⟨RL, "build", "(LHailPool;IIIIIII[J)I"⟩
abbrev cL_setNet : ByteArray := method_5_code
def yL_setNet : MethodName := ⟨RL, "setNet", "(LHailPool;IZ[J)I"⟩
abbrev cL_insure : ByteArray := method_6_code
def yL_insure : MethodName := ⟨RL, "insure", "(LHailPool;IIII[J)I"⟩
abbrev cL_mend : ByteArray := method_7_code
def yL_mend : MethodName := ⟨RL, "mend", "(LHailPool;I[J)I"⟩
abbrev cL_grower : ByteArray := method_8_code
def yL_grower : MethodName := ⟨RL, "grower", "(LHailPool;II[J)I"⟩
abbrev cL_house : ByteArray := method_9_code
def yL_house : MethodName := ⟨RL, "house", "(LHailPool;II[J)I"⟩
abbrev cL_pane : ByteArray := method_10_code
def yL_pane : MethodName := ⟨RL, "pane", "(LHailPool;II[J)I"⟩
abbrev cL_fund : ByteArray := method_11_code
def yL_fund : MethodName := ⟨RL, "fund", "(LHailPool;I[J)I"⟩
abbrev cL_addLayer : ByteArray := method_12_code
def yL_addLayer : MethodName := ⟨RL, "addLayer", "(LHailPool;III[J)I"⟩
abbrev cL_layer : ByteArray := method_13_code
def yL_layer : MethodName := ⟨RL, "layer", "(LHailPool;II[J)I"⟩
abbrev cL_count : ByteArray := method_14_code
def yL_count : MethodName := ⟨RL, "count", "(LHailPool;I[J)I"⟩
abbrev cL_storm : ByteArray := method_15_code
def yL_storm : MethodName := ⟨RL, "storm", "(LHailPool;IIIIIII[J)I"⟩
abbrev cL_told : ByteArray := method_16_code
def yL_told : MethodName := ⟨RL, "told", "(LHailPool;II[J)I"⟩
abbrev cL_wouldBe : ByteArray := method_17_code
def yL_wouldBe : MethodName := ⟨RL, "wouldBe", "(LHailPool;IIIIIIII[J)I"⟩
abbrev cL_worst : ByteArray := method_18_code
def yL_worst : MethodName := ⟨RL, "worst", "(LHailPool;II[J)I"⟩
abbrev cL_advise : ByteArray := method_19_code
def yL_advise : MethodName := ⟨RL, "advise", "(LHailPool;III[J)I"⟩
abbrev cL_law : ByteArray := code
def yL_law : MethodName := ⟨RL, "law", "([I)Z"⟩
abbrev vwCl : List vw_C := [(RJx4a65c, TJx4a65c, 3), (RX0, TX0, 8), (RX1, TX1, 8), (RX2, TX2, 5), (RX3, TX3, 7), (RX4, TX4, 6), (RX5, TX5, 9), (RX6, TX6, 19), (RX7, TX7, 3)]
